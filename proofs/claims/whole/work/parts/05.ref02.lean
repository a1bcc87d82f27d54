theorem hi_X11_tell_X11 : ∀ w ∈ u_ws RX11 TX11 63, w ∈ wsX11_tell := fun _ h => List.mem_cons_of_mem _ (List.mem_append_right _ h)
theorem lk_X11_tell_1 : Cond.fieldLink RX11 80 "PartedHouseModel" "how" "[I" ∈ wsX11_tell := List.mem_of_getElem? (i := 1) rfl
abbrev rm_X11_tell : Room := { frames := 2, cells := 0, slots := 0, locals := 43 }
def vr_tell (a1 : Int32) (a2 : Int32) (a3 : Int32) (g0 : jm_M) (Post : Int32 → jm_M → Prop) : Prop := vr_isModule a1 g0 (fun (r1 : Int32) => ((r1 = 0) → (Post (-1) g0)) ∧ ((¬ r1 = 0) → (vr_isModule a2 g0 (fun (r3 : Int32) => ((r3 = 0) → (Post (-1) g0)) ∧ ((¬ r3 = 0) → (((a1 = a2) → (Post (-1) g0)) ∧ ((¬ a1 = a2) → (vr_in a3 0 2 g0 (fun (r6 : Int32) => ((¬ r6 = 0) → ((vp_in (((10 : Int32) * a1) + a2) 100) ∧ (∀ y8 : Int32, y8 = g0 32 (((10 : Int32) * a1) + a2).toNatClampNeg → ((vp_in (((10 : Int32) * a1) + a2) 100) ∧ (∀ g9 : jm_M, g9 = jm_a g0 32 (((10 : Int32) * a1) + a2) a3 → ((vp_in (((10 : Int32) * a2) + a1) 100) ∧ (∀ g10 : jm_M, g10 = jm_a g9 32 (((10 : Int32) * a2) + a1) a3 → (Post y8 g10)))))))) ∧ ((r6 = 0) → (Post (-1) g0)))))))))))
set_option maxHeartbeats 4000000 in
set_option maxRecDepth 100000 in
theorem cr_tell (l : Launch) (D : va_G) (cs : Nat → ClassId) (Y X : va_W) (ad : Nat → Nat) (a1 : Int32) (a2 : Int32) (a3 : Int32) (g0 : jm_M) (Post : Int32 → jm_M → Prop) (hV : vr_tell a1 a2 a3 g0 Post) : JI (wr_d Y X cs ad) D vwCl (jt_tys cs) l yX11_tell wsX11_tell rm_X11_tell 0 0 [.ref (ad 0), .int a1, .int a2, .int a3] g0 Post := by
  refine jj_metI (cc := cX11_tell) (nL := 5) (ret := (some .int)) (by decide) rfl (Nat.le_of_ble_eq_true rfl) [(0, .ref (ad 0)), (1, .int a1), (2, .int a2), (3, .int a3)] rfl ?_
  intro p e s m args below meth c hC hnm
  rw [vr_tell] at hV
  refine jj_aload_n (pc2 := 1) hC dX11_tell_0 rfl 0 rfl rfl ?_
  refine jj_iload_n (pc2 := 2) hC dX11_tell_1 rfl 1 rfl rfl ?_
  refine jj_cVIp (pc2 := 5) (wd := wr_d Y X cs ad) (g := g0) (rest := []) hC (Y.length + 0) (jx_at (V := wr_W cs ad g0) rfl) rfl rfl (cr_isModule l D cs Y X ad a1 g0 _ hV) (cwV 1 hC.1.2.2.2.2 gX11_tell_X11_isModule rfl rfl rfl (by decide +kernel) ⟨by decide, by decide⟩) rfl (Nat.le_of_ble_eq_true rfl) _ rfl dX11_tell_2 ⟨Nat.zero_le _, Nat.zero_le _⟩ rfl (fun r1 hV => ?_)
  refine jj_if_eq (pc2 := 8) hC 30 dX11_tell_5 (by decide) rfl (fun h2 => ?_) (fun h2 => ?_)
  · have hV := hV.1 h2
    refine jj_iconst (pc2 := 31) hC (-1) dX11_tell_30 (by decide) rfl ?_
    exact jj_iret hC dX11_tell_31 hV
  · have hV := hV.2 h2
    refine jj_aload_n (pc2 := 9) hC dX11_tell_8 rfl 0 rfl rfl ?_
    refine jj_iload_n (pc2 := 10) hC dX11_tell_9 rfl 2 rfl rfl ?_
    refine jj_cVIp (pc2 := 13) (wd := wr_d Y X cs ad) (g := g0) (rest := []) hC (Y.length + 0) (jx_at (V := wr_W cs ad g0) rfl) rfl rfl (cr_isModule l D cs Y X ad a2 g0 _ hV) (cwV 1 hC.1.2.2.2.2 gX11_tell_X11_isModule rfl rfl rfl (by decide +kernel) ⟨by decide, by decide⟩) rfl (Nat.le_of_ble_eq_true rfl) _ rfl dX11_tell_10 ⟨Nat.zero_le _, Nat.zero_le _⟩ rfl (fun r3 hV => ?_)
    refine jj_if_eq (pc2 := 16) hC 30 dX11_tell_13 (by decide) rfl (fun h4 => ?_) (fun h4 => ?_)
    · have hV := hV.1 h4
      refine jj_iconst (pc2 := 31) hC (-1) dX11_tell_30 (by decide) rfl ?_
      exact jj_iret hC dX11_tell_31 hV
    · have hV := hV.2 h4
      refine jj_iload_n (pc2 := 17) hC dX11_tell_16 rfl 1 rfl rfl ?_
      refine jj_iload_n (pc2 := 18) hC dX11_tell_17 rfl 2 rfl rfl ?_
      refine jj_icmp_eq (pc2 := 21) hC 30 dX11_tell_18 (by decide) rfl (fun h5 => ?_) (fun h5 => ?_)
      · have hV := hV.1 h5
        refine jj_iconst (pc2 := 31) hC (-1) dX11_tell_30 (by decide) rfl ?_
        exact jj_iret hC dX11_tell_31 hV
      · have hV := hV.2 h5
        refine jj_iload_n (pc2 := 22) hC dX11_tell_21 rfl 3 rfl rfl ?_
        refine jj_iconst (pc2 := 23) hC 0 dX11_tell_22 (by decide) rfl ?_
        refine jj_iconst (pc2 := 24) hC 2 dX11_tell_23 (by decide) rfl ?_
        refine jj_cSIp (pc2 := 27) (wd := wr_d Y X cs ad) (g := g0) (rest := []) hC (cr_in l D cs Y X ad a3 0 2 g0 _ hV) (va_cwS 3 hC.1.2.2.2.2 gX11_tell_X11_in rfl rfl rfl (by decide +kernel) ⟨by decide, by decide⟩) rfl (Nat.le_of_ble_eq_true rfl) _ rfl dX11_tell_24 ⟨Nat.zero_le _, Nat.zero_le _⟩ rfl (fun r6 hV => ?_)
        refine jj_if_ne (pc2 := 30) hC 32 dX11_tell_27 (by decide) rfl (fun h7 => ?_) (fun h7 => ?_)
        · have hV := hV.1 h7
          refine jj_aload_n (pc2 := 33) hC dX11_tell_32 rfl 0 rfl rfl ?_
          refine rg_32 (pc2 := 36) hC hi_X11_tell_X11 lk_X11_tell_1 dX11_tell_33 rfl ?_
          refine jj_bipush (pc2 := 38) hC 10 dX11_tell_36 (by decide) rfl ?_
          refine jj_iload_n (pc2 := 39) hC dX11_tell_38 rfl 1 rfl rfl ?_
          refine jj_imul (pc2 := 40) hC dX11_tell_39 rfl ?_
          refine jj_iload_n (pc2 := 41) hC dX11_tell_40 rfl 2 rfl rfl ?_
          refine jj_iadd (pc2 := 42) hC dX11_tell_41 rfl ?_
          refine ra_32 (pc2 := 43) hC hV.1 dX11_tell_42 rfl ?_
          have hV := hV.2
          refine jj_topi (fun y8 ey8 => ?_)
          have hV := hV y8 ey8
          refine jj_istore (pc2 := 45) hC [(4, .int y8), (0, .ref (ad 0)), (1, .int a1), (2, .int a2), (3, .int a3)] dX11_tell_43 (by decide) rfl rfl ?_
          refine jj_aload_n (pc2 := 46) hC dX11_tell_45 rfl 1 rfl rfl ?_
          refine rg_32 (pc2 := 49) hC hi_X11_tell_X11 lk_X11_tell_1 dX11_tell_46 rfl ?_
          refine jj_bipush (pc2 := 51) hC 10 dX11_tell_49 (by decide) rfl ?_
          refine jj_iload_n (pc2 := 52) hC dX11_tell_51 rfl 2 rfl rfl ?_
          refine jj_imul (pc2 := 53) hC dX11_tell_52 rfl ?_
          refine jj_iload_n (pc2 := 54) hC dX11_tell_53 rfl 3 rfl rfl ?_
          refine jj_iadd (pc2 := 55) hC dX11_tell_54 rfl ?_
          refine jj_iload_n (pc2 := 56) hC dX11_tell_55 rfl 4 rfl rfl ?_
          refine rs_32 (pc2 := 57) hC hV.1 dX11_tell_56 rfl (fun g9 eg9 => ?_)
          have hV := hV.2 g9 eg9
          refine jj_aload_n (pc2 := 58) hC dX11_tell_57 rfl 1 rfl rfl ?_
          refine rg_32 (pc2 := 61) hC hi_X11_tell_X11 lk_X11_tell_1 dX11_tell_58 rfl ?_
          refine jj_bipush (pc2 := 63) hC 10 dX11_tell_61 (by decide) rfl ?_
          refine jj_iload_n (pc2 := 64) hC dX11_tell_63 rfl 3 rfl rfl ?_
          refine jj_imul (pc2 := 65) hC dX11_tell_64 rfl ?_
          refine jj_iload_n (pc2 := 66) hC dX11_tell_65 rfl 2 rfl rfl ?_
          refine jj_iadd (pc2 := 67) hC dX11_tell_66 rfl ?_
          refine jj_iload_n (pc2 := 68) hC dX11_tell_67 rfl 4 rfl rfl ?_
          refine rs_32 (pc2 := 69) hC hV.1 dX11_tell_68 rfl (fun g10 eg10 => ?_)
          have hV := hV.2 g10 eg10
          refine jj_iload (pc2 := 71) hC dX11_tell_69 0 rfl rfl ?_
          exact jj_iret hC dX11_tell_71 hV
        · have hV := hV.2 h7
          refine jj_iconst (pc2 := 31) hC (-1) dX11_tell_30 (by decide) rfl ?_
          exact jj_iret hC dX11_tell_31 hV
theorem hi_X11_priceOf_X11 : ∀ w ∈ u_ws RX11 TX11 63, w ∈ wsX11_priceOf := fun _ h => List.mem_cons_of_mem _ (List.mem_append_right _ h)
theorem lk_X11_priceOf_2 : Cond.fieldLink RX11 62 "PartedHouseModel" "calls" "[I" ∈ wsX11_priceOf := List.mem_of_getElem? (i := 2) rfl
theorem lk_X11_priceOf_1 : Cond.fieldLink RX11 77 "PartedHouseModel" "weights" "[I" ∈ wsX11_priceOf := List.mem_of_getElem? (i := 1) rfl
theorem lk_X11_priceOf_6 : Cond.fieldLink RX11 68 "PartedHouseModel" "writes" "[I" ∈ wsX11_priceOf := List.mem_of_getElem? (i := 6) rfl
theorem lk_X11_priceOf_5 : Cond.fieldLink RX11 65 "PartedHouseModel" "reads" "[I" ∈ wsX11_priceOf := List.mem_of_getElem? (i := 5) rfl
theorem lk_X11_priceOf_4 : Cond.fieldLink RX11 13 "PartedHouseModel" "home" "[I" ∈ wsX11_priceOf := List.mem_of_getElem? (i := 4) rfl
theorem lk_X11_priceOf_3 : Cond.fieldLink RX11 155 "PartedHouseModel" "tables" "I" ∈ wsX11_priceOf := List.mem_of_getElem? (i := 3) rfl
theorem lk_X11_priceOf_7 : Cond.fieldLink RX11 71 "PartedHouseModel" "sets" "[I" ∈ wsX11_priceOf := List.mem_of_getElem? (i := 7) rfl
abbrev rm_X11_priceOf : Room := { frames := 0, cells := 0, slots := 0, locals := 0 }
def vr_priceOf_14 (kk : Nat) (x2 : Int32) (x5 : Int32) (g0 : jm_M) (K62 : Int64 → Prop) (Post : Int64 → Prop) : Nat → Int64 → Int32 → Prop
  | 0, _, _ => False
  | f + 1, x3, x6 => ((x2 ≤ x6) → (K62 x3)) ∧ ((¬ x2 ≤ x6) → ((vp_in x5 10) ∧ ((vp_in x6 10) ∧ ((((g0 kk x5.toNatClampNeg) = (g0 kk x6.toNatClampNeg)) → (vr_priceOf_14 kk x2 x5 g0 K62 Post f x3 (x6 + 1))) ∧ ((¬ (g0 kk x5.toNatClampNeg) = (g0 kk x6.toNatClampNeg)) → ((vp_in (((10 : Int32) * x5) + x6) 100) ∧ (∀ y4 : Int64, y4 = x3 + (((g0 31 (0 : Int32).toNatClampNeg).toInt64) * ((g0 24 (((10 : Int32) * x5) + x6).toNatClampNeg).toInt64)) → (vr_priceOf_14 kk x2 x5 g0 K62 Post f y4 (x6 + 1)))))))))
def vr_priceOf_5 (kk : Nat) (x2 : Int32) (g0 : jm_M) (K68 : Int64 → Prop) (Post : Int64 → Prop) : Nat → Int64 → Int32 → Prop
  | 0, _, _ => False
  | f + 1, x3, x5 => ((x2 ≤ x5) → (K68 x3)) ∧ ((¬ x2 ≤ x5) → (∃ n6 : Nat, vr_priceOf_14 kk x2 x5 g0 (fun (y5 : Int64) => vr_priceOf_5 kk x2 g0 K68 Post f y5 (x5 + 1)) Post n6 x3 0))
def vr_priceOf_80 (kk : Nat) (x2 : Int32) (x5 : Int32) (g0 : jm_M) (K173 : Int64 → Prop) (Post : Int64 → Prop) : Nat → Int64 → Int32 → Prop
  | 0, _, _ => False
  | f + 1, x3, x6 => (((g0 3 0) ≤ x6) → (K173 x3)) ∧ ((¬ (g0 3 0) ≤ x6) → ((vp_in x6 16) ∧ (((x2 ≤ (g0 4 x6.toNatClampNeg)) → (vr_priceOf_80 kk x2 x5 g0 K173 Post f x3 (x6 + 1))) ∧ ((¬ x2 ≤ (g0 4 x6.toNatClampNeg)) → ((vp_in x5 10) ∧ ((vp_in x6 16) ∧ ((vp_in (g0 4 x6.toNatClampNeg) 10) ∧ (((¬ (g0 kk x5.toNatClampNeg) = (g0 kk (g0 4 x6.toNatClampNeg).toNatClampNeg)) → ((vp_in (((16 : Int32) * x5) + x6) 160) ∧ ((vp_in (((16 : Int32) * x5) + x6) 160) ∧ (∀ y12 : Int64, y12 = x3 + ((((g0 31 (1 : Int32).toNatClampNeg).toInt64) * ((g0 25 (((16 : Int32) * x5) + x6).toNatClampNeg).toInt64)) + (((g0 31 (2 : Int32).toNatClampNeg).toInt64) * ((g0 26 (((16 : Int32) * x5) + x6).toNatClampNeg).toInt64))) → (vr_priceOf_80 kk x2 x5 g0 K173 Post f y12 (x6 + 1)))))) ∧ (((g0 kk x5.toNatClampNeg) = (g0 kk (g0 4 x6.toNatClampNeg).toNatClampNeg)) → (vr_priceOf_80 kk x2 x5 g0 K173 Post f x3 (x6 + 1)))))))))))
def vr_priceOf_71 (kk : Nat) (x2 : Int32) (g0 : jm_M) (K179 : Int64 → Prop) (Post : Int64 → Prop) : Nat → Int64 → Int32 → Prop
  | 0, _, _ => False
  | f + 1, x3, x5 => ((x2 ≤ x5) → (K179 x3)) ∧ ((¬ x2 ≤ x5) → (∃ n14 : Nat, vr_priceOf_80 kk x2 x5 g0 (fun (y13 : Int64) => vr_priceOf_71 kk x2 g0 K179 Post f y13 (x5 + 1)) Post n14 x3 0))
def vr_priceOf_209 (kk : Nat) (x2 : Int32) (x3 : Int64) (x5 : Int32) (g0 : jm_M) (K243 : Int32 → Prop) (Post : Int64 → Prop) : Nat → Int32 → Int32 → Prop
  | 0, _, _ => False
  | f + 1, x6, x7 => ((x2 ≤ x7) → (K243 x6)) ∧ ((¬ x2 ≤ x7) → (((¬ ((x5 >>> (x7 &&& 31)) &&& 1) = 1) → (vr_priceOf_209 kk x2 x3 x5 g0 K243 Post f x6 (x7 + 1))) ∧ ((((x5 >>> (x7 &&& 31)) &&& 1) = 1) → ((vp_in x7 10) ∧ (∀ y20 : Int32, y20 = x6 ||| ((1 : Int32) <<< ((g0 kk x7.toNatClampNeg) &&& 31)) → (vr_priceOf_209 kk x2 x3 x5 g0 K243 Post f y20 (x7 + 1)))))))
def vr_priceOf_249 (kk : Nat) (x2 : Int32) (x3 : Int64) (x5 : Int32) (x6 : Int32) (g0 : jm_M) (K274 : Int32 → Prop) (Post : Int64 → Prop) : Nat → Int32 → Int32 → Prop
  | 0, _, _ => False
  | f + 1, x7, x8 => ((6 ≤ x8) → (K274 x7)) ∧ ((¬ 6 ≤ x8) → (∀ y23 : Int32, y23 = x7 + ((x6 >>> (x8 &&& 31)) &&& 1) → (vr_priceOf_249 kk x2 x3 x5 x6 g0 K274 Post f y23 (x8 + 1))))
def vr_priceOf_182 (kk : Nat) (x2 : Int32) (g0 : jm_M) (Post : Int64 → Prop) : Nat → Int64 → Int32 → Prop
  | 0, _, _ => False
  | f + 1, x3, x5 => ((1024 ≤ x5) → (Post x3)) ∧ ((¬ 1024 ≤ x5) → ((vp_in x5 1024) ∧ (((¬ (g0 27 x5.toNatClampNeg) = 0) → (∃ n28 : Nat, vr_priceOf_209 kk x2 x3 x5 g0 (fun (y21 : Int32) => ∃ n27 : Nat, vr_priceOf_249 kk x2 x3 x5 y21 g0 (fun (y24 : Int32) => ((y24 ≤ 1) → (vr_priceOf_182 kk x2 g0 Post f x3 (x5 + 1))) ∧ ((¬ y24 ≤ 1) → ((vp_in x5 1024) ∧ (∀ y26 : Int64, y26 = x3 + ((((g0 31 (3 : Int32).toNatClampNeg).toInt64) * ((g0 27 x5.toNatClampNeg).toInt64)) * ((y24 - 1).toInt64)) → (vr_priceOf_182 kk x2 g0 Post f y26 (x5 + 1)))))) Post n27 0 0) Post n28 0 0)) ∧ (((g0 27 x5.toNatClampNeg) = 0) → (vr_priceOf_182 kk x2 g0 Post f x3 (x5 + 1))))))
def vr_priceOf (kk : Nat) (a2 : Int32) (g0 : jm_M) (Post : Int64 → Prop) : Prop := ∃ n31 : Nat, vr_priceOf_5 kk a2 g0 (fun (y7 : Int64) => ∃ n30 : Nat, vr_priceOf_71 kk a2 g0 (fun (y15 : Int64) => ∃ n29 : Nat, vr_priceOf_182 kk a2 g0 Post n29 y15 1) Post n30 y7 0) Post n31 0 0
set_option maxHeartbeats 4000000 in
set_option maxRecDepth 100000 in
theorem ar_priceOf_30_14 {p : Program} {l : Launch} {e : Env} {s : State} {m : MethodId} {args : Array Value} {below : List Frame} {meth : Method} {c : Code} {D : va_G} {cs : Nat → ClassId} {Y X : va_W} {ad : Nat → Nat} {g0 : jm_M} (hC : JC p s m args meth c D vwCl (va_A (wr_d Y X cs ad g0) s.heap.size) 9 cX11_priceOf (some .long) wsX11_priceOf RX11 (jt_tys cs)) (x2 : Int32) (x5 : Int32) (Post : Int64 → Prop) (K62 : Int64 → Prop) (hK62 : ∀ (z3 : Int64) , K62 z3 → JJ (wr_d Y X cs ad) p l e rm_X11_priceOf s m args below meth c D vwCl (va_A (wr_d Y X cs ad g0) s.heap.size) 9 0 0 (MQ below (jj_QL (wr_d Y X cs ad) D vwCl (jt_tys cs) g0 s.heap.size (fun r g2 => Post r ∧ g2 = g0)) args s 0 0 (va_A (wr_d Y X cs ad g0) s.heap.size)) 62 [(0, .ref (ad 0)), (1, .ref (ad 31)), (2, .int x2), (3, .long z3), (5, .int x5)] [] g0) : ∀ (f : Nat) (x3 : Int64) (x6 : Int32), vr_priceOf_14 30 x2 x5 g0 K62 Post f x3 x6 → JJ (wr_d Y X cs ad) p l e rm_X11_priceOf s m args below meth c D vwCl (va_A (wr_d Y X cs ad g0) s.heap.size) 9 0 0 (MQ below (jj_QL (wr_d Y X cs ad) D vwCl (jt_tys cs) g0 s.heap.size (fun r g2 => Post r ∧ g2 = g0)) args s 0 0 (va_A (wr_d Y X cs ad g0) s.heap.size)) 14 [(0, .ref (ad 0)), (1, .ref (ad 31)), (2, .int x2), (3, .long x3), (5, .int x5), (6, .int x6)] [] g0 := by
  intro f
  induction f with
  | zero => intro x3 x6 hV; exact hV.elim
  | succ f ih =>
    intro x3 x6 hV
    rw [vr_priceOf_14] at hV
    refine jj_iload (pc2 := 16) hC dX11_priceOf_14 5 rfl rfl ?_
    refine jj_iload_n (pc2 := 17) hC dX11_priceOf_16 rfl 2 rfl rfl ?_
    refine jj_icmp_ge (pc2 := 20) hC 62 dX11_priceOf_17 (by decide) rfl (fun h2 => ?_) (fun h2 => ?_)
    · have hV := hV.1 h2
      exact jj_sub (lv2 := [(0, .ref (ad 0)), (1, .ref (ad 31)), (2, .int x2), (3, .long x3), (5, .int x5)]) [0, 1, 2, 3, 4] rfl (hK62 x3 hV)
    · have hV := hV.2 h2
      refine jj_aload_n (pc2 := 21) hC dX11_priceOf_20 rfl 1 rfl rfl ?_
      refine jj_iload (pc2 := 23) hC dX11_priceOf_21 4 rfl rfl ?_
      refine ra_30 (pc2 := 24) hC hV.1 dX11_priceOf_23 rfl ?_
      have hV := hV.2
      refine jj_aload_n (pc2 := 25) hC dX11_priceOf_24 rfl 1 rfl rfl ?_
      refine jj_iload (pc2 := 27) hC dX11_priceOf_25 5 rfl rfl ?_
      refine ra_30 (pc2 := 28) hC hV.1 dX11_priceOf_27 rfl ?_
      have hV := hV.2
      refine jj_icmp_eq (pc2 := 31) hC 56 dX11_priceOf_28 (by decide) rfl (fun h3 => ?_) (fun h3 => ?_)
      · have hV := hV.1 h3
        refine jj_iinc (pc2 := 59) hC (x6 + 1) [(6, .int (x6 + 1)), (0, .ref (ad 0)), (1, .ref (ad 31)), (2, .int x2), (3, .long x3), (5, .int x5)] dX11_priceOf_56 5 rfl rfl (by decide) rfl rfl ?_
        refine jj_goto hC 14 dX11_priceOf_59 (by decide) ?_
        exact jj_sub (lv2 := [(0, .ref (ad 0)), (1, .ref (ad 31)), (2, .int x2), (3, .long x3), (5, .int x5), (6, .int (x6 + 1))]) [1, 2, 3, 4, 5, 0] rfl (ih x3 (x6 + 1) hV)
      · have hV := hV.2 h3
        refine jj_lload_n (pc2 := 32) hC dX11_priceOf_31 rfl 3 rfl rfl ?_
        refine jj_aload_n (pc2 := 33) hC dX11_priceOf_32 rfl 0 rfl rfl ?_
        refine rg_31 (pc2 := 36) hC hi_X11_priceOf_X11 lk_X11_priceOf_1 dX11_priceOf_33 rfl ?_
        refine jj_iconst (pc2 := 37) hC 0 dX11_priceOf_36 (by decide) rfl ?_
        refine ra_31 (pc2 := 38) hC (jx_lit (by decide) (by decide)) dX11_priceOf_37 rfl ?_
        refine jj_i2l (pc2 := 39) hC dX11_priceOf_38 rfl ?_
        refine jj_aload_n (pc2 := 40) hC dX11_priceOf_39 rfl 0 rfl rfl ?_
        refine rg_24 (pc2 := 43) hC hi_X11_priceOf_X11 lk_X11_priceOf_2 dX11_priceOf_40 rfl ?_
        refine jj_bipush (pc2 := 45) hC 10 dX11_priceOf_43 (by decide) rfl ?_
        refine jj_iload (pc2 := 47) hC dX11_priceOf_45 4 rfl rfl ?_
        refine jj_imul (pc2 := 48) hC dX11_priceOf_47 rfl ?_
        refine jj_iload (pc2 := 50) hC dX11_priceOf_48 5 rfl rfl ?_
        refine jj_iadd (pc2 := 51) hC dX11_priceOf_50 rfl ?_
        refine ra_24 (pc2 := 52) hC hV.1 dX11_priceOf_51 rfl ?_
        have hV := hV.2
        refine jj_i2l (pc2 := 53) hC dX11_priceOf_52 rfl ?_
        refine jj_lmul (pc2 := 54) hC dX11_priceOf_53 rfl ?_
        refine jj_ladd (pc2 := 55) hC dX11_priceOf_54 rfl ?_
        refine jj_topl (fun y4 ey4 => ?_)
        have hV := hV y4 ey4
        refine jj_lstore_n (pc2 := 56) hC [(3, .long y4), (0, .ref (ad 0)), (1, .ref (ad 31)), (2, .int x2), (5, .int x5), (6, .int x6)] dX11_priceOf_55 rfl (by decide) rfl rfl ?_
        refine jj_iinc (pc2 := 59) hC (x6 + 1) [(6, .int (x6 + 1)), (3, .long y4), (0, .ref (ad 0)), (1, .ref (ad 31)), (2, .int x2), (5, .int x5)] dX11_priceOf_56 5 rfl rfl (by decide) rfl rfl ?_
        refine jj_goto hC 14 dX11_priceOf_59 (by decide) ?_
        exact jj_sub (lv2 := [(0, .ref (ad 0)), (1, .ref (ad 31)), (2, .int x2), (3, .long y4), (5, .int x5), (6, .int (x6 + 1))]) [2, 3, 4, 1, 5, 0] rfl (ih y4 (x6 + 1) hV)
set_option maxHeartbeats 4000000 in
set_option maxRecDepth 100000 in
theorem ar_priceOf_30_5 {p : Program} {l : Launch} {e : Env} {s : State} {m : MethodId} {args : Array Value} {below : List Frame} {meth : Method} {c : Code} {D : va_G} {cs : Nat → ClassId} {Y X : va_W} {ad : Nat → Nat} {g0 : jm_M} (hC : JC p s m args meth c D vwCl (va_A (wr_d Y X cs ad g0) s.heap.size) 9 cX11_priceOf (some .long) wsX11_priceOf RX11 (jt_tys cs)) (x2 : Int32) (Post : Int64 → Prop) (K68 : Int64 → Prop) (hK68 : ∀ (z3 : Int64) , K68 z3 → JJ (wr_d Y X cs ad) p l e rm_X11_priceOf s m args below meth c D vwCl (va_A (wr_d Y X cs ad g0) s.heap.size) 9 0 0 (MQ below (jj_QL (wr_d Y X cs ad) D vwCl (jt_tys cs) g0 s.heap.size (fun r g2 => Post r ∧ g2 = g0)) args s 0 0 (va_A (wr_d Y X cs ad g0) s.heap.size)) 68 [(0, .ref (ad 0)), (1, .ref (ad 31)), (2, .int x2), (3, .long z3)] [] g0) : ∀ (f : Nat) (x3 : Int64) (x5 : Int32), vr_priceOf_5 30 x2 g0 K68 Post f x3 x5 → JJ (wr_d Y X cs ad) p l e rm_X11_priceOf s m args below meth c D vwCl (va_A (wr_d Y X cs ad g0) s.heap.size) 9 0 0 (MQ below (jj_QL (wr_d Y X cs ad) D vwCl (jt_tys cs) g0 s.heap.size (fun r g2 => Post r ∧ g2 = g0)) args s 0 0 (va_A (wr_d Y X cs ad g0) s.heap.size)) 5 [(0, .ref (ad 0)), (1, .ref (ad 31)), (2, .int x2), (3, .long x3), (5, .int x5)] [] g0 := by
  intro f
  induction f with
  | zero => intro x3 x5 hV; exact hV.elim
  | succ f ih =>
    intro x3 x5 hV
    rw [vr_priceOf_5] at hV
    refine jj_iload (pc2 := 7) hC dX11_priceOf_5 4 rfl rfl ?_
    refine jj_iload_n (pc2 := 8) hC dX11_priceOf_7 rfl 2 rfl rfl ?_
    refine jj_icmp_ge (pc2 := 11) hC 68 dX11_priceOf_8 (by decide) rfl (fun h1 => ?_) (fun h1 => ?_)
    · have hV := hV.1 h1
      exact jj_sub (lv2 := [(0, .ref (ad 0)), (1, .ref (ad 31)), (2, .int x2), (3, .long x3)]) [0, 1, 2, 3] rfl (hK68 x3 hV)
    · have hV := hV.2 h1
      refine jj_iconst (pc2 := 12) hC 0 dX11_priceOf_11 (by decide) rfl ?_
      refine jj_istore (pc2 := 14) hC [(6, .int 0), (0, .ref (ad 0)), (1, .ref (ad 31)), (2, .int x2), (3, .long x3), (5, .int x5)] dX11_priceOf_12 (by decide) rfl rfl ?_
      obtain ⟨n6, hV⟩ := hV
      refine jj_sub (lv2 := [(0, .ref (ad 0)), (1, .ref (ad 31)), (2, .int x2), (3, .long x3), (5, .int x5), (6, .int 0)]) [1, 2, 3, 4, 5, 0] rfl (ar_priceOf_30_14 hC x2 x5 Post _ (fun y5 hV => ?_) n6 x3 0 hV)
      refine jj_iinc (pc2 := 65) hC (x5 + 1) [(5, .int (x5 + 1)), (0, .ref (ad 0)), (1, .ref (ad 31)), (2, .int x2), (3, .long y5)] dX11_priceOf_62 4 rfl rfl (by decide) rfl rfl ?_
      refine jj_goto hC 5 dX11_priceOf_65 (by decide) ?_
      exact jj_sub (lv2 := [(0, .ref (ad 0)), (1, .ref (ad 31)), (2, .int x2), (3, .long y5), (5, .int (x5 + 1))]) [1, 2, 3, 4, 0] rfl (ih y5 (x5 + 1) hV)
set_option maxHeartbeats 4000000 in
set_option maxRecDepth 100000 in
theorem ar_priceOf_30_80 {p : Program} {l : Launch} {e : Env} {s : State} {m : MethodId} {args : Array Value} {below : List Frame} {meth : Method} {c : Code} {D : va_G} {cs : Nat → ClassId} {Y X : va_W} {ad : Nat → Nat} {g0 : jm_M} (hC : JC p s m args meth c D vwCl (va_A (wr_d Y X cs ad g0) s.heap.size) 9 cX11_priceOf (some .long) wsX11_priceOf RX11 (jt_tys cs)) (x2 : Int32) (x5 : Int32) (Post : Int64 → Prop) (K173 : Int64 → Prop) (hK173 : ∀ (z3 : Int64) , K173 z3 → JJ (wr_d Y X cs ad) p l e rm_X11_priceOf s m args below meth c D vwCl (va_A (wr_d Y X cs ad g0) s.heap.size) 9 0 0 (MQ below (jj_QL (wr_d Y X cs ad) D vwCl (jt_tys cs) g0 s.heap.size (fun r g2 => Post r ∧ g2 = g0)) args s 0 0 (va_A (wr_d Y X cs ad g0) s.heap.size)) 173 [(0, .ref (ad 0)), (1, .ref (ad 31)), (2, .int x2), (3, .long z3), (5, .int x5)] [] g0) : ∀ (f : Nat) (x3 : Int64) (x6 : Int32), vr_priceOf_80 30 x2 x5 g0 K173 Post f x3 x6 → JJ (wr_d Y X cs ad) p l e rm_X11_priceOf s m args below meth c D vwCl (va_A (wr_d Y X cs ad g0) s.heap.size) 9 0 0 (MQ below (jj_QL (wr_d Y X cs ad) D vwCl (jt_tys cs) g0 s.heap.size (fun r g2 => Post r ∧ g2 = g0)) args s 0 0 (va_A (wr_d Y X cs ad g0) s.heap.size)) 80 [(0, .ref (ad 0)), (1, .ref (ad 31)), (2, .int x2), (3, .long x3), (5, .int x5), (6, .int x6)] [] g0 := by
  intro f
  induction f with
  | zero => intro x3 x6 hV; exact hV.elim
  | succ f ih =>
    intro x3 x6 hV
    rw [vr_priceOf_80] at hV
    refine jj_iload (pc2 := 82) hC dX11_priceOf_80 5 rfl rfl ?_
    refine jj_aload_n (pc2 := 83) hC dX11_priceOf_82 rfl 0 rfl rfl ?_
    refine rg_3 (pc2 := 86) hC hi_X11_priceOf_X11 lk_X11_priceOf_3 dX11_priceOf_83 rfl ?_
    refine jj_icmp_ge (pc2 := 89) hC 173 dX11_priceOf_86 (by decide) rfl (fun h9 => ?_) (fun h9 => ?_)
    · have hV := hV.1 h9
      exact jj_sub (lv2 := [(0, .ref (ad 0)), (1, .ref (ad 31)), (2, .int x2), (3, .long x3), (5, .int x5)]) [0, 1, 2, 3, 4] rfl (hK173 x3 hV)
    · have hV := hV.2 h9
      refine jj_aload_n (pc2 := 90) hC dX11_priceOf_89 rfl 0 rfl rfl ?_
      refine rg_4 (pc2 := 93) hC hi_X11_priceOf_X11 lk_X11_priceOf_4 dX11_priceOf_90 rfl ?_
      refine jj_iload (pc2 := 95) hC dX11_priceOf_93 5 rfl rfl ?_
      refine ra_4 (pc2 := 96) hC hV.1 dX11_priceOf_95 rfl ?_
      have hV := hV.2
      refine jj_iload_n (pc2 := 97) hC dX11_priceOf_96 rfl 2 rfl rfl ?_
      refine jj_icmp_ge (pc2 := 100) hC 167 dX11_priceOf_97 (by decide) rfl (fun h10 => ?_) (fun h10 => ?_)
      · have hV := hV.1 h10
        refine jj_iinc (pc2 := 170) hC (x6 + 1) [(6, .int (x6 + 1)), (0, .ref (ad 0)), (1, .ref (ad 31)), (2, .int x2), (3, .long x3), (5, .int x5)] dX11_priceOf_167 5 rfl rfl (by decide) rfl rfl ?_
        refine jj_goto hC 80 dX11_priceOf_170 (by decide) ?_
        exact jj_sub (lv2 := [(0, .ref (ad 0)), (1, .ref (ad 31)), (2, .int x2), (3, .long x3), (5, .int x5), (6, .int (x6 + 1))]) [1, 2, 3, 4, 5, 0] rfl (ih x3 (x6 + 1) hV)
      · have hV := hV.2 h10
        refine jj_aload_n (pc2 := 101) hC dX11_priceOf_100 rfl 1 rfl rfl ?_
        refine jj_iload (pc2 := 103) hC dX11_priceOf_101 4 rfl rfl ?_
        refine ra_30 (pc2 := 104) hC hV.1 dX11_priceOf_103 rfl ?_
        have hV := hV.2
        refine jj_aload_n (pc2 := 105) hC dX11_priceOf_104 rfl 1 rfl rfl ?_
        refine jj_aload_n (pc2 := 106) hC dX11_priceOf_105 rfl 0 rfl rfl ?_
        refine rg_4 (pc2 := 109) hC hi_X11_priceOf_X11 lk_X11_priceOf_4 dX11_priceOf_106 rfl ?_
        refine jj_iload (pc2 := 111) hC dX11_priceOf_109 5 rfl rfl ?_
        refine ra_4 (pc2 := 112) hC hV.1 dX11_priceOf_111 rfl ?_
        have hV := hV.2
        refine ra_30 (pc2 := 113) hC hV.1 dX11_priceOf_112 rfl ?_
        have hV := hV.2
        refine jj_icmp_ne (pc2 := 116) hC 119 dX11_priceOf_113 (by decide) rfl (fun h11 => ?_) (fun h11 => ?_)
        · have hV := hV.1 h11
          refine jj_lload_n (pc2 := 120) hC dX11_priceOf_119 rfl 3 rfl rfl ?_
          refine jj_aload_n (pc2 := 121) hC dX11_priceOf_120 rfl 0 rfl rfl ?_
          refine rg_31 (pc2 := 124) hC hi_X11_priceOf_X11 lk_X11_priceOf_1 dX11_priceOf_121 rfl ?_
          refine jj_iconst (pc2 := 125) hC 1 dX11_priceOf_124 (by decide) rfl ?_
          refine ra_31 (pc2 := 126) hC (jx_lit (by decide) (by decide)) dX11_priceOf_125 rfl ?_
          refine jj_i2l (pc2 := 127) hC dX11_priceOf_126 rfl ?_
          refine jj_aload_n (pc2 := 128) hC dX11_priceOf_127 rfl 0 rfl rfl ?_
          refine rg_25 (pc2 := 131) hC hi_X11_priceOf_X11 lk_X11_priceOf_5 dX11_priceOf_128 rfl ?_
          refine jj_bipush (pc2 := 133) hC 16 dX11_priceOf_131 (by decide) rfl ?_
          refine jj_iload (pc2 := 135) hC dX11_priceOf_133 4 rfl rfl ?_
          refine jj_imul (pc2 := 136) hC dX11_priceOf_135 rfl ?_
          refine jj_iload (pc2 := 138) hC dX11_priceOf_136 5 rfl rfl ?_
          refine jj_iadd (pc2 := 139) hC dX11_priceOf_138 rfl ?_
          refine ra_25 (pc2 := 140) hC hV.1 dX11_priceOf_139 rfl ?_
          have hV := hV.2
          refine jj_i2l (pc2 := 141) hC dX11_priceOf_140 rfl ?_
          refine jj_lmul (pc2 := 142) hC dX11_priceOf_141 rfl ?_
          refine jj_aload_n (pc2 := 143) hC dX11_priceOf_142 rfl 0 rfl rfl ?_
          refine rg_31 (pc2 := 146) hC hi_X11_priceOf_X11 lk_X11_priceOf_1 dX11_priceOf_143 rfl ?_
          refine jj_iconst (pc2 := 147) hC 2 dX11_priceOf_146 (by decide) rfl ?_
          refine ra_31 (pc2 := 148) hC (jx_lit (by decide) (by decide)) dX11_priceOf_147 rfl ?_
          refine jj_i2l (pc2 := 149) hC dX11_priceOf_148 rfl ?_
          refine jj_aload_n (pc2 := 150) hC dX11_priceOf_149 rfl 0 rfl rfl ?_
          refine rg_26 (pc2 := 153) hC hi_X11_priceOf_X11 lk_X11_priceOf_6 dX11_priceOf_150 rfl ?_
          refine jj_bipush (pc2 := 155) hC 16 dX11_priceOf_153 (by decide) rfl ?_
          refine jj_iload (pc2 := 157) hC dX11_priceOf_155 4 rfl rfl ?_
          refine jj_imul (pc2 := 158) hC dX11_priceOf_157 rfl ?_
          refine jj_iload (pc2 := 160) hC dX11_priceOf_158 5 rfl rfl ?_
          refine jj_iadd (pc2 := 161) hC dX11_priceOf_160 rfl ?_
          refine ra_26 (pc2 := 162) hC hV.1 dX11_priceOf_161 rfl ?_
          have hV := hV.2
          refine jj_i2l (pc2 := 163) hC dX11_priceOf_162 rfl ?_
          refine jj_lmul (pc2 := 164) hC dX11_priceOf_163 rfl ?_
          refine jj_ladd (pc2 := 165) hC dX11_priceOf_164 rfl ?_
          refine jj_ladd (pc2 := 166) hC dX11_priceOf_165 rfl ?_
          refine jj_topl (fun y12 ey12 => ?_)
          have hV := hV y12 ey12
          refine jj_lstore_n (pc2 := 167) hC [(3, .long y12), (0, .ref (ad 0)), (1, .ref (ad 31)), (2, .int x2), (5, .int x5), (6, .int x6)] dX11_priceOf_166 rfl (by decide) rfl rfl ?_
          refine jj_iinc (pc2 := 170) hC (x6 + 1) [(6, .int (x6 + 1)), (3, .long y12), (0, .ref (ad 0)), (1, .ref (ad 31)), (2, .int x2), (5, .int x5)] dX11_priceOf_167 5 rfl rfl (by decide) rfl rfl ?_
          refine jj_goto hC 80 dX11_priceOf_170 (by decide) ?_
          exact jj_sub (lv2 := [(0, .ref (ad 0)), (1, .ref (ad 31)), (2, .int x2), (3, .long y12), (5, .int x5), (6, .int (x6 + 1))]) [2, 3, 4, 1, 5, 0] rfl (ih y12 (x6 + 1) hV)
        · have hV := hV.2 h11
          refine jj_goto hC 167 dX11_priceOf_116 (by decide) ?_
          refine jj_iinc (pc2 := 170) hC (x6 + 1) [(6, .int (x6 + 1)), (0, .ref (ad 0)), (1, .ref (ad 31)), (2, .int x2), (3, .long x3), (5, .int x5)] dX11_priceOf_167 5 rfl rfl (by decide) rfl rfl ?_
          refine jj_goto hC 80 dX11_priceOf_170 (by decide) ?_
          exact jj_sub (lv2 := [(0, .ref (ad 0)), (1, .ref (ad 31)), (2, .int x2), (3, .long x3), (5, .int x5), (6, .int (x6 + 1))]) [1, 2, 3, 4, 5, 0] rfl (ih x3 (x6 + 1) hV)
set_option maxHeartbeats 4000000 in
set_option maxRecDepth 100000 in
theorem ar_priceOf_30_71 {p : Program} {l : Launch} {e : Env} {s : State} {m : MethodId} {args : Array Value} {below : List Frame} {meth : Method} {c : Code} {D : va_G} {cs : Nat → ClassId} {Y X : va_W} {ad : Nat → Nat} {g0 : jm_M} (hC : JC p s m args meth c D vwCl (va_A (wr_d Y X cs ad g0) s.heap.size) 9 cX11_priceOf (some .long) wsX11_priceOf RX11 (jt_tys cs)) (x2 : Int32) (Post : Int64 → Prop) (K179 : Int64 → Prop) (hK179 : ∀ (z3 : Int64) , K179 z3 → JJ (wr_d Y X cs ad) p l e rm_X11_priceOf s m args below meth c D vwCl (va_A (wr_d Y X cs ad g0) s.heap.size) 9 0 0 (MQ below (jj_QL (wr_d Y X cs ad) D vwCl (jt_tys cs) g0 s.heap.size (fun r g2 => Post r ∧ g2 = g0)) args s 0 0 (va_A (wr_d Y X cs ad g0) s.heap.size)) 179 [(0, .ref (ad 0)), (1, .ref (ad 31)), (2, .int x2), (3, .long z3)] [] g0) : ∀ (f : Nat) (x3 : Int64) (x5 : Int32), vr_priceOf_71 30 x2 g0 K179 Post f x3 x5 → JJ (wr_d Y X cs ad) p l e rm_X11_priceOf s m args below meth c D vwCl (va_A (wr_d Y X cs ad g0) s.heap.size) 9 0 0 (MQ below (jj_QL (wr_d Y X cs ad) D vwCl (jt_tys cs) g0 s.heap.size (fun r g2 => Post r ∧ g2 = g0)) args s 0 0 (va_A (wr_d Y X cs ad g0) s.heap.size)) 71 [(0, .ref (ad 0)), (1, .ref (ad 31)), (2, .int x2), (3, .long x3), (5, .int x5)] [] g0 := by
  intro f
  induction f with
  | zero => intro x3 x5 hV; exact hV.elim
  | succ f ih =>
    intro x3 x5 hV
    rw [vr_priceOf_71] at hV
    refine jj_iload (pc2 := 73) hC dX11_priceOf_71 4 rfl rfl ?_
    refine jj_iload_n (pc2 := 74) hC dX11_priceOf_73 rfl 2 rfl rfl ?_
    refine jj_icmp_ge (pc2 := 77) hC 179 dX11_priceOf_74 (by decide) rfl (fun h8 => ?_) (fun h8 => ?_)
    · have hV := hV.1 h8
      exact jj_sub (lv2 := [(0, .ref (ad 0)), (1, .ref (ad 31)), (2, .int x2), (3, .long x3)]) [0, 1, 2, 3] rfl (hK179 x3 hV)
    · have hV := hV.2 h8
      refine jj_iconst (pc2 := 78) hC 0 dX11_priceOf_77 (by decide) rfl ?_
      refine jj_istore (pc2 := 80) hC [(6, .int 0), (0, .ref (ad 0)), (1, .ref (ad 31)), (2, .int x2), (3, .long x3), (5, .int x5)] dX11_priceOf_78 (by decide) rfl rfl ?_
      obtain ⟨n14, hV⟩ := hV
      refine jj_sub (lv2 := [(0, .ref (ad 0)), (1, .ref (ad 31)), (2, .int x2), (3, .long x3), (5, .int x5), (6, .int 0)]) [1, 2, 3, 4, 5, 0] rfl (ar_priceOf_30_80 hC x2 x5 Post _ (fun y13 hV => ?_) n14 x3 0 hV)
      refine jj_iinc (pc2 := 176) hC (x5 + 1) [(5, .int (x5 + 1)), (0, .ref (ad 0)), (1, .ref (ad 31)), (2, .int x2), (3, .long y13)] dX11_priceOf_173 4 rfl rfl (by decide) rfl rfl ?_
      refine jj_goto hC 71 dX11_priceOf_176 (by decide) ?_
      exact jj_sub (lv2 := [(0, .ref (ad 0)), (1, .ref (ad 31)), (2, .int x2), (3, .long y13), (5, .int (x5 + 1))]) [1, 2, 3, 4, 0] rfl (ih y13 (x5 + 1) hV)
set_option maxHeartbeats 4000000 in
set_option maxRecDepth 100000 in
theorem ar_priceOf_30_209 {p : Program} {l : Launch} {e : Env} {s : State} {m : MethodId} {args : Array Value} {below : List Frame} {meth : Method} {c : Code} {D : va_G} {cs : Nat → ClassId} {Y X : va_W} {ad : Nat → Nat} {g0 : jm_M} (hC : JC p s m args meth c D vwCl (va_A (wr_d Y X cs ad g0) s.heap.size) 9 cX11_priceOf (some .long) wsX11_priceOf RX11 (jt_tys cs)) (x2 : Int32) (x3 : Int64) (x5 : Int32) (Post : Int64 → Prop) (K243 : Int32 → Prop) (hK243 : ∀ (z6 : Int32) , K243 z6 → JJ (wr_d Y X cs ad) p l e rm_X11_priceOf s m args below meth c D vwCl (va_A (wr_d Y X cs ad g0) s.heap.size) 9 0 0 (MQ below (jj_QL (wr_d Y X cs ad) D vwCl (jt_tys cs) g0 s.heap.size (fun r g2 => Post r ∧ g2 = g0)) args s 0 0 (va_A (wr_d Y X cs ad g0) s.heap.size)) 243 [(0, .ref (ad 0)), (1, .ref (ad 31)), (2, .int x2), (3, .long x3), (5, .int x5), (6, .int z6)] [] g0) : ∀ (f : Nat) (x6 : Int32) (x7 : Int32), vr_priceOf_209 30 x2 x3 x5 g0 K243 Post f x6 x7 → JJ (wr_d Y X cs ad) p l e rm_X11_priceOf s m args below meth c D vwCl (va_A (wr_d Y X cs ad g0) s.heap.size) 9 0 0 (MQ below (jj_QL (wr_d Y X cs ad) D vwCl (jt_tys cs) g0 s.heap.size (fun r g2 => Post r ∧ g2 = g0)) args s 0 0 (va_A (wr_d Y X cs ad g0) s.heap.size)) 209 [(0, .ref (ad 0)), (1, .ref (ad 31)), (2, .int x2), (3, .long x3), (5, .int x5), (6, .int x6), (7, .int x7)] [] g0 := by
  intro f
  induction f with
  | zero => intro x6 x7 hV; exact hV.elim
  | succ f ih =>
    intro x6 x7 hV
    rw [vr_priceOf_209] at hV
    refine jj_iload (pc2 := 211) hC dX11_priceOf_209 6 rfl rfl ?_
    refine jj_iload_n (pc2 := 212) hC dX11_priceOf_211 rfl 2 rfl rfl ?_
    refine jj_icmp_ge (pc2 := 215) hC 243 dX11_priceOf_212 (by decide) rfl (fun h18 => ?_) (fun h18 => ?_)
    · have hV := hV.1 h18
      exact jj_sub (lv2 := [(0, .ref (ad 0)), (1, .ref (ad 31)), (2, .int x2), (3, .long x3), (5, .int x5), (6, .int x6)]) [0, 1, 2, 3, 4, 5] rfl (hK243 x6 hV)
    · have hV := hV.2 h18
      refine jj_iload (pc2 := 217) hC dX11_priceOf_215 4 rfl rfl ?_
      refine jj_iload (pc2 := 219) hC dX11_priceOf_217 6 rfl rfl ?_
      refine jj_ishr (pc2 := 220) hC dX11_priceOf_219 rfl ?_
      refine jj_iconst (pc2 := 221) hC 1 dX11_priceOf_220 (by decide) rfl ?_
      refine jj_iand (pc2 := 222) hC dX11_priceOf_221 rfl ?_
      refine jj_iconst (pc2 := 223) hC 1 dX11_priceOf_222 (by decide) rfl ?_
      refine jj_icmp_ne (pc2 := 226) hC 237 dX11_priceOf_223 (by decide) rfl (fun h19 => ?_) (fun h19 => ?_)
      · have hV := hV.1 h19
        refine jj_iinc (pc2 := 240) hC (x7 + 1) [(7, .int (x7 + 1)), (0, .ref (ad 0)), (1, .ref (ad 31)), (2, .int x2), (3, .long x3), (5, .int x5), (6, .int x6)] dX11_priceOf_237 6 rfl rfl (by decide) rfl rfl ?_
        refine jj_goto hC 209 dX11_priceOf_240 (by decide) ?_
        exact jj_sub (lv2 := [(0, .ref (ad 0)), (1, .ref (ad 31)), (2, .int x2), (3, .long x3), (5, .int x5), (6, .int x6), (7, .int (x7 + 1))]) [1, 2, 3, 4, 5, 6, 0] rfl (ih x6 (x7 + 1) hV)
      · have hV := hV.2 h19
        refine jj_iload (pc2 := 228) hC dX11_priceOf_226 5 rfl rfl ?_
        refine jj_iconst (pc2 := 229) hC 1 dX11_priceOf_228 (by decide) rfl ?_
        refine jj_aload_n (pc2 := 230) hC dX11_priceOf_229 rfl 1 rfl rfl ?_
        refine jj_iload (pc2 := 232) hC dX11_priceOf_230 6 rfl rfl ?_
        refine ra_30 (pc2 := 233) hC hV.1 dX11_priceOf_232 rfl ?_
        have hV := hV.2
        refine jj_ishl (pc2 := 234) hC dX11_priceOf_233 rfl ?_
        refine jj_ior (pc2 := 235) hC dX11_priceOf_234 rfl ?_
        refine jj_topi (fun y20 ey20 => ?_)
        have hV := hV y20 ey20
        refine jj_istore (pc2 := 237) hC [(6, .int y20), (0, .ref (ad 0)), (1, .ref (ad 31)), (2, .int x2), (3, .long x3), (5, .int x5), (7, .int x7)] dX11_priceOf_235 (by decide) rfl rfl ?_
        refine jj_iinc (pc2 := 240) hC (x7 + 1) [(7, .int (x7 + 1)), (6, .int y20), (0, .ref (ad 0)), (1, .ref (ad 31)), (2, .int x2), (3, .long x3), (5, .int x5)] dX11_priceOf_237 6 rfl rfl (by decide) rfl rfl ?_
        refine jj_goto hC 209 dX11_priceOf_240 (by decide) ?_
        exact jj_sub (lv2 := [(0, .ref (ad 0)), (1, .ref (ad 31)), (2, .int x2), (3, .long x3), (5, .int x5), (6, .int y20), (7, .int (x7 + 1))]) [2, 3, 4, 5, 6, 1, 0] rfl (ih y20 (x7 + 1) hV)
set_option maxHeartbeats 4000000 in
set_option maxRecDepth 100000 in
theorem ar_priceOf_30_249 {p : Program} {l : Launch} {e : Env} {s : State} {m : MethodId} {args : Array Value} {below : List Frame} {meth : Method} {c : Code} {D : va_G} {cs : Nat → ClassId} {Y X : va_W} {ad : Nat → Nat} {g0 : jm_M} (hC : JC p s m args meth c D vwCl (va_A (wr_d Y X cs ad g0) s.heap.size) 9 cX11_priceOf (some .long) wsX11_priceOf RX11 (jt_tys cs)) (x2 : Int32) (x3 : Int64) (x5 : Int32) (x6 : Int32) (Post : Int64 → Prop) (K274 : Int32 → Prop) (hK274 : ∀ (z7 : Int32) , K274 z7 → JJ (wr_d Y X cs ad) p l e rm_X11_priceOf s m args below meth c D vwCl (va_A (wr_d Y X cs ad g0) s.heap.size) 9 0 0 (MQ below (jj_QL (wr_d Y X cs ad) D vwCl (jt_tys cs) g0 s.heap.size (fun r g2 => Post r ∧ g2 = g0)) args s 0 0 (va_A (wr_d Y X cs ad g0) s.heap.size)) 274 [(0, .ref (ad 0)), (1, .ref (ad 31)), (2, .int x2), (3, .long x3), (5, .int x5), (7, .int z7)] [] g0) : ∀ (f : Nat) (x7 : Int32) (x8 : Int32), vr_priceOf_249 30 x2 x3 x5 x6 g0 K274 Post f x7 x8 → JJ (wr_d Y X cs ad) p l e rm_X11_priceOf s m args below meth c D vwCl (va_A (wr_d Y X cs ad g0) s.heap.size) 9 0 0 (MQ below (jj_QL (wr_d Y X cs ad) D vwCl (jt_tys cs) g0 s.heap.size (fun r g2 => Post r ∧ g2 = g0)) args s 0 0 (va_A (wr_d Y X cs ad g0) s.heap.size)) 249 [(0, .ref (ad 0)), (1, .ref (ad 31)), (2, .int x2), (3, .long x3), (5, .int x5), (6, .int x6), (7, .int x7), (8, .int x8)] [] g0 := by
  intro f
  induction f with
  | zero => intro x7 x8 hV; exact hV.elim
  | succ f ih =>
    intro x7 x8 hV
    rw [vr_priceOf_249] at hV
    refine jj_iload (pc2 := 251) hC dX11_priceOf_249 7 rfl rfl ?_
    refine jj_bipush (pc2 := 253) hC 6 dX11_priceOf_251 (by decide) rfl ?_
    refine jj_icmp_ge (pc2 := 256) hC 274 dX11_priceOf_253 (by decide) rfl (fun h22 => ?_) (fun h22 => ?_)
    · have hV := hV.1 h22
      exact jj_sub (lv2 := [(0, .ref (ad 0)), (1, .ref (ad 31)), (2, .int x2), (3, .long x3), (5, .int x5), (7, .int x7)]) [0, 1, 2, 3, 4, 6] rfl (hK274 x7 hV)
    · have hV := hV.2 h22
      refine jj_iload (pc2 := 258) hC dX11_priceOf_256 6 rfl rfl ?_
      refine jj_iload (pc2 := 260) hC dX11_priceOf_258 5 rfl rfl ?_
      refine jj_iload (pc2 := 262) hC dX11_priceOf_260 7 rfl rfl ?_
      refine jj_ishr (pc2 := 263) hC dX11_priceOf_262 rfl ?_
      refine jj_iconst (pc2 := 264) hC 1 dX11_priceOf_263 (by decide) rfl ?_
      refine jj_iand (pc2 := 265) hC dX11_priceOf_264 rfl ?_
      refine jj_iadd (pc2 := 266) hC dX11_priceOf_265 rfl ?_
      refine jj_topi (fun y23 ey23 => ?_)
      have hV := hV y23 ey23
      refine jj_istore (pc2 := 268) hC [(7, .int y23), (0, .ref (ad 0)), (1, .ref (ad 31)), (2, .int x2), (3, .long x3), (5, .int x5), (6, .int x6), (8, .int x8)] dX11_priceOf_266 (by decide) rfl rfl ?_
      refine jj_iinc (pc2 := 271) hC (x8 + 1) [(8, .int (x8 + 1)), (7, .int y23), (0, .ref (ad 0)), (1, .ref (ad 31)), (2, .int x2), (3, .long x3), (5, .int x5), (6, .int x6)] dX11_priceOf_268 7 rfl rfl (by decide) rfl rfl ?_
      refine jj_goto hC 249 dX11_priceOf_271 (by decide) ?_
      exact jj_sub (lv2 := [(0, .ref (ad 0)), (1, .ref (ad 31)), (2, .int x2), (3, .long x3), (5, .int x5), (6, .int x6), (7, .int y23), (8, .int (x8 + 1))]) [2, 3, 4, 5, 6, 7, 1, 0] rfl (ih y23 (x8 + 1) hV)
set_option maxHeartbeats 4000000 in
set_option maxRecDepth 100000 in
theorem ar_priceOf_30_182 {p : Program} {l : Launch} {e : Env} {s : State} {m : MethodId} {args : Array Value} {below : List Frame} {meth : Method} {c : Code} {D : va_G} {cs : Nat → ClassId} {Y X : va_W} {ad : Nat → Nat} {g0 : jm_M} (hC : JC p s m args meth c D vwCl (va_A (wr_d Y X cs ad g0) s.heap.size) 9 cX11_priceOf (some .long) wsX11_priceOf RX11 (jt_tys cs)) (x2 : Int32) (Post : Int64 → Prop) : ∀ (f : Nat) (x3 : Int64) (x5 : Int32), vr_priceOf_182 30 x2 g0 Post f x3 x5 → JJ (wr_d Y X cs ad) p l e rm_X11_priceOf s m args below meth c D vwCl (va_A (wr_d Y X cs ad g0) s.heap.size) 9 0 0 (MQ below (jj_QL (wr_d Y X cs ad) D vwCl (jt_tys cs) g0 s.heap.size (fun r g2 => Post r ∧ g2 = g0)) args s 0 0 (va_A (wr_d Y X cs ad g0) s.heap.size)) 182 [(0, .ref (ad 0)), (1, .ref (ad 31)), (2, .int x2), (3, .long x3), (5, .int x5)] [] g0 := by
  intro f
  induction f with
  | zero => intro x3 x5 hV; exact hV.elim
  | succ f ih =>
    intro x3 x5 hV
    rw [vr_priceOf_182] at hV
    refine jj_iload (pc2 := 184) hC dX11_priceOf_182 4 rfl rfl ?_
    refine jj_sipush (pc2 := 187) hC 1024 dX11_priceOf_184 (by decide) rfl ?_
    refine jj_icmp_ge (pc2 := 190) hC 311 dX11_priceOf_187 (by decide) rfl (fun h16 => ?_) (fun h16 => ?_)
    · have hV := hV.1 h16
      refine jj_lload_n (pc2 := 312) hC dX11_priceOf_311 rfl 3 rfl rfl ?_
      exact jj_lret hC dX11_priceOf_312 ⟨hV, rfl⟩
    · have hV := hV.2 h16
      refine jj_aload_n (pc2 := 191) hC dX11_priceOf_190 rfl 0 rfl rfl ?_
      refine rg_27 (pc2 := 194) hC hi_X11_priceOf_X11 lk_X11_priceOf_7 dX11_priceOf_191 rfl ?_
      refine jj_iload (pc2 := 196) hC dX11_priceOf_194 4 rfl rfl ?_
      refine ra_27 (pc2 := 197) hC hV.1 dX11_priceOf_196 rfl ?_
      have hV := hV.2
      refine jj_if_ne (pc2 := 200) hC 203 dX11_priceOf_197 (by decide) rfl (fun h17 => ?_) (fun h17 => ?_)
      · have hV := hV.1 h17
        refine jj_iconst (pc2 := 204) hC 0 dX11_priceOf_203 (by decide) rfl ?_
        refine jj_istore (pc2 := 206) hC [(6, .int 0), (0, .ref (ad 0)), (1, .ref (ad 31)), (2, .int x2), (3, .long x3), (5, .int x5)] dX11_priceOf_204 (by decide) rfl rfl ?_
        refine jj_iconst (pc2 := 207) hC 0 dX11_priceOf_206 (by decide) rfl ?_
        refine jj_istore (pc2 := 209) hC [(7, .int 0), (6, .int 0), (0, .ref (ad 0)), (1, .ref (ad 31)), (2, .int x2), (3, .long x3), (5, .int x5)] dX11_priceOf_207 (by decide) rfl rfl ?_
        obtain ⟨n28, hV⟩ := hV
        refine jj_sub (lv2 := [(0, .ref (ad 0)), (1, .ref (ad 31)), (2, .int x2), (3, .long x3), (5, .int x5), (6, .int 0), (7, .int 0)]) [2, 3, 4, 5, 6, 1, 0] rfl (ar_priceOf_30_209 hC x2 x3 x5 Post _ (fun y21 hV => ?_) n28 0 0 hV)
        refine jj_iconst (pc2 := 244) hC 0 dX11_priceOf_243 (by decide) rfl ?_
        refine jj_istore (pc2 := 246) hC [(7, .int 0), (0, .ref (ad 0)), (1, .ref (ad 31)), (2, .int x2), (3, .long x3), (5, .int x5), (6, .int y21)] dX11_priceOf_244 (by decide) rfl rfl ?_
        refine jj_iconst (pc2 := 247) hC 0 dX11_priceOf_246 (by decide) rfl ?_
        refine jj_istore (pc2 := 249) hC [(8, .int 0), (7, .int 0), (0, .ref (ad 0)), (1, .ref (ad 31)), (2, .int x2), (3, .long x3), (5, .int x5), (6, .int y21)] dX11_priceOf_247 (by decide) rfl rfl ?_
        obtain ⟨n27, hV⟩ := hV
        refine jj_sub (lv2 := [(0, .ref (ad 0)), (1, .ref (ad 31)), (2, .int x2), (3, .long x3), (5, .int x5), (6, .int y21), (7, .int 0), (8, .int 0)]) [2, 3, 4, 5, 6, 7, 1, 0] rfl (ar_priceOf_30_249 hC x2 x3 x5 y21 Post _ (fun y24 hV => ?_) n27 0 0 hV)
        refine jj_iload (pc2 := 276) hC dX11_priceOf_274 5 rfl rfl ?_
        refine jj_iconst (pc2 := 277) hC 1 dX11_priceOf_276 (by decide) rfl ?_
        refine jj_icmp_le (pc2 := 280) hC 305 dX11_priceOf_277 (by decide) rfl (fun h25 => ?_) (fun h25 => ?_)
        · have hV := hV.1 h25
          refine jj_iinc (pc2 := 308) hC (x5 + 1) [(5, .int (x5 + 1)), (0, .ref (ad 0)), (1, .ref (ad 31)), (2, .int x2), (3, .long x3), (7, .int y24)] dX11_priceOf_305 4 rfl rfl (by decide) rfl rfl ?_
          refine jj_goto hC 182 dX11_priceOf_308 (by decide) ?_
          exact jj_sub (lv2 := [(0, .ref (ad 0)), (1, .ref (ad 31)), (2, .int x2), (3, .long x3), (5, .int (x5 + 1))]) [1, 2, 3, 4, 0] rfl (ih x3 (x5 + 1) hV)
        · have hV := hV.2 h25
          refine jj_lload_n (pc2 := 281) hC dX11_priceOf_280 rfl 3 rfl rfl ?_
          refine jj_aload_n (pc2 := 282) hC dX11_priceOf_281 rfl 0 rfl rfl ?_
          refine rg_31 (pc2 := 285) hC hi_X11_priceOf_X11 lk_X11_priceOf_1 dX11_priceOf_282 rfl ?_
          refine jj_iconst (pc2 := 286) hC 3 dX11_priceOf_285 (by decide) rfl ?_
          refine ra_31 (pc2 := 287) hC (jx_lit (by decide) (by decide)) dX11_priceOf_286 rfl ?_
          refine jj_i2l (pc2 := 288) hC dX11_priceOf_287 rfl ?_
          refine jj_aload_n (pc2 := 289) hC dX11_priceOf_288 rfl 0 rfl rfl ?_
          refine rg_27 (pc2 := 292) hC hi_X11_priceOf_X11 lk_X11_priceOf_7 dX11_priceOf_289 rfl ?_
          refine jj_iload (pc2 := 294) hC dX11_priceOf_292 4 rfl rfl ?_
          refine ra_27 (pc2 := 295) hC hV.1 dX11_priceOf_294 rfl ?_
          have hV := hV.2
          refine jj_i2l (pc2 := 296) hC dX11_priceOf_295 rfl ?_
          refine jj_lmul (pc2 := 297) hC dX11_priceOf_296 rfl ?_
          refine jj_iload (pc2 := 299) hC dX11_priceOf_297 5 rfl rfl ?_
          refine jj_iconst (pc2 := 300) hC 1 dX11_priceOf_299 (by decide) rfl ?_
          refine jj_isub (pc2 := 301) hC dX11_priceOf_300 rfl ?_
          refine jj_i2l (pc2 := 302) hC dX11_priceOf_301 rfl ?_
          refine jj_lmul (pc2 := 303) hC dX11_priceOf_302 rfl ?_
          refine jj_ladd (pc2 := 304) hC dX11_priceOf_303 rfl ?_
          refine jj_topl (fun y26 ey26 => ?_)
          have hV := hV y26 ey26
          refine jj_lstore_n (pc2 := 305) hC [(3, .long y26), (0, .ref (ad 0)), (1, .ref (ad 31)), (2, .int x2), (5, .int x5), (7, .int y24)] dX11_priceOf_304 rfl (by decide) rfl rfl ?_
          refine jj_iinc (pc2 := 308) hC (x5 + 1) [(5, .int (x5 + 1)), (3, .long y26), (0, .ref (ad 0)), (1, .ref (ad 31)), (2, .int x2), (7, .int y24)] dX11_priceOf_305 4 rfl rfl (by decide) rfl rfl ?_
          refine jj_goto hC 182 dX11_priceOf_308 (by decide) ?_
          exact jj_sub (lv2 := [(0, .ref (ad 0)), (1, .ref (ad 31)), (2, .int x2), (3, .long y26), (5, .int (x5 + 1))]) [2, 3, 4, 1, 0] rfl (ih y26 (x5 + 1) hV)
      · have hV := hV.2 h17
        refine jj_goto hC 305 dX11_priceOf_200 (by decide) ?_
        refine jj_iinc (pc2 := 308) hC (x5 + 1) [(5, .int (x5 + 1)), (0, .ref (ad 0)), (1, .ref (ad 31)), (2, .int x2), (3, .long x3)] dX11_priceOf_305 4 rfl rfl (by decide) rfl rfl ?_
        refine jj_goto hC 182 dX11_priceOf_308 (by decide) ?_
        exact jj_sub (lv2 := [(0, .ref (ad 0)), (1, .ref (ad 31)), (2, .int x2), (3, .long x3), (5, .int (x5 + 1))]) [1, 2, 3, 4, 0] rfl (ih x3 (x5 + 1) hV)
set_option maxHeartbeats 4000000 in
set_option maxRecDepth 100000 in
theorem cr_priceOf_30 (l : Launch) (D : va_G) (cs : Nat → ClassId) (Y X : va_W) (ad : Nat → Nat) (a2 : Int32) (g0 : jm_M) (Post : Int64 → Prop) (hV : vr_priceOf 30 a2 g0 Post) : JL (wr_d Y X cs ad) D vwCl (jt_tys cs) l yX11_priceOf wsX11_priceOf rm_X11_priceOf 0 0 [.ref (ad 0), .ref (ad 31), .int a2] g0 (fun r g2 => Post r ∧ g2 = g0) := by
  refine jj_metL (cc := cX11_priceOf) (nL := 9) (ret := (some .long)) (by decide) rfl (Nat.le_of_ble_eq_true rfl) [(0, .ref (ad 0)), (1, .ref (ad 31)), (2, .int a2)] rfl ?_
  intro p e s m args below meth c hC hnm
  rw [vr_priceOf] at hV
  refine jj_lconst (pc2 := 1) hC 0 dX11_priceOf_0 (by decide) rfl ?_
  refine jj_lstore_n (pc2 := 2) hC [(3, .long 0), (0, .ref (ad 0)), (1, .ref (ad 31)), (2, .int a2)] dX11_priceOf_1 rfl (by decide) rfl rfl ?_
  refine jj_iconst (pc2 := 3) hC 0 dX11_priceOf_2 (by decide) rfl ?_
  refine jj_istore (pc2 := 5) hC [(5, .int 0), (3, .long 0), (0, .ref (ad 0)), (1, .ref (ad 31)), (2, .int a2)] dX11_priceOf_3 (by decide) rfl rfl ?_
  obtain ⟨n31, hV⟩ := hV
  refine jj_sub (lv2 := [(0, .ref (ad 0)), (1, .ref (ad 31)), (2, .int a2), (3, .long 0), (5, .int 0)]) [2, 3, 4, 1, 0] rfl (ar_priceOf_30_5 hC a2 Post _ (fun y7 hV => ?_) n31 0 0 hV)
  refine jj_iconst (pc2 := 69) hC 0 dX11_priceOf_68 (by decide) rfl ?_
  refine jj_istore (pc2 := 71) hC [(5, .int 0), (0, .ref (ad 0)), (1, .ref (ad 31)), (2, .int a2), (3, .long y7)] dX11_priceOf_69 (by decide) rfl rfl ?_
  obtain ⟨n30, hV⟩ := hV
  refine jj_sub (lv2 := [(0, .ref (ad 0)), (1, .ref (ad 31)), (2, .int a2), (3, .long y7), (5, .int 0)]) [1, 2, 3, 4, 0] rfl (ar_priceOf_30_71 hC a2 Post _ (fun y15 hV => ?_) n30 y7 0 hV)
  refine jj_iconst (pc2 := 180) hC 1 dX11_priceOf_179 (by decide) rfl ?_
  refine jj_istore (pc2 := 182) hC [(5, .int 1), (0, .ref (ad 0)), (1, .ref (ad 31)), (2, .int a2), (3, .long y15)] dX11_priceOf_180 (by decide) rfl rfl ?_
  obtain ⟨n29, hV⟩ := hV
  refine jj_sub (lv2 := [(0, .ref (ad 0)), (1, .ref (ad 31)), (2, .int a2), (3, .long y15), (5, .int 1)]) [1, 2, 3, 4, 0] rfl (ar_priceOf_30_182 hC a2 Post n29 y15 1 hV)
set_option maxHeartbeats 4000000 in
set_option maxRecDepth 100000 in
theorem ar_priceOf_36_14 {p : Program} {l : Launch} {e : Env} {s : State} {m : MethodId} {args : Array Value} {below : List Frame} {meth : Method} {c : Code} {D : va_G} {cs : Nat → ClassId} {Y X : va_W} {ad : Nat → Nat} {g0 : jm_M} (hC : JC p s m args meth c D vwCl (va_A (wr_d Y X cs ad g0) s.heap.size) 9 cX11_priceOf (some .long) wsX11_priceOf RX11 (jt_tys cs)) (x2 : Int32) (x5 : Int32) (Post : Int64 → Prop) (K62 : Int64 → Prop) (hK62 : ∀ (z3 : Int64) , K62 z3 → JJ (wr_d Y X cs ad) p l e rm_X11_priceOf s m args below meth c D vwCl (va_A (wr_d Y X cs ad g0) s.heap.size) 9 0 0 (MQ below (jj_QL (wr_d Y X cs ad) D vwCl (jt_tys cs) g0 s.heap.size (fun r g2 => Post r ∧ g2 = g0)) args s 0 0 (va_A (wr_d Y X cs ad g0) s.heap.size)) 62 [(0, .ref (ad 0)), (1, .ref (ad 37)), (2, .int x2), (3, .long z3), (5, .int x5)] [] g0) : ∀ (f : Nat) (x3 : Int64) (x6 : Int32), vr_priceOf_14 36 x2 x5 g0 K62 Post f x3 x6 → JJ (wr_d Y X cs ad) p l e rm_X11_priceOf s m args below meth c D vwCl (va_A (wr_d Y X cs ad g0) s.heap.size) 9 0 0 (MQ below (jj_QL (wr_d Y X cs ad) D vwCl (jt_tys cs) g0 s.heap.size (fun r g2 => Post r ∧ g2 = g0)) args s 0 0 (va_A (wr_d Y X cs ad g0) s.heap.size)) 14 [(0, .ref (ad 0)), (1, .ref (ad 37)), (2, .int x2), (3, .long x3), (5, .int x5), (6, .int x6)] [] g0 := by
  intro f
  induction f with
  | zero => intro x3 x6 hV; exact hV.elim
  | succ f ih =>
    intro x3 x6 hV
    rw [vr_priceOf_14] at hV
    refine jj_iload (pc2 := 16) hC dX11_priceOf_14 5 rfl rfl ?_
    refine jj_iload_n (pc2 := 17) hC dX11_priceOf_16 rfl 2 rfl rfl ?_
    refine jj_icmp_ge (pc2 := 20) hC 62 dX11_priceOf_17 (by decide) rfl (fun h2 => ?_) (fun h2 => ?_)
    · have hV := hV.1 h2
      exact jj_sub (lv2 := [(0, .ref (ad 0)), (1, .ref (ad 37)), (2, .int x2), (3, .long x3), (5, .int x5)]) [0, 1, 2, 3, 4] rfl (hK62 x3 hV)
    · have hV := hV.2 h2
      refine jj_aload_n (pc2 := 21) hC dX11_priceOf_20 rfl 1 rfl rfl ?_
      refine jj_iload (pc2 := 23) hC dX11_priceOf_21 4 rfl rfl ?_
      refine ra_36 (pc2 := 24) hC hV.1 dX11_priceOf_23 rfl ?_
      have hV := hV.2
      refine jj_aload_n (pc2 := 25) hC dX11_priceOf_24 rfl 1 rfl rfl ?_
      refine jj_iload (pc2 := 27) hC dX11_priceOf_25 5 rfl rfl ?_
      refine ra_36 (pc2 := 28) hC hV.1 dX11_priceOf_27 rfl ?_
      have hV := hV.2
      refine jj_icmp_eq (pc2 := 31) hC 56 dX11_priceOf_28 (by decide) rfl (fun h3 => ?_) (fun h3 => ?_)
      · have hV := hV.1 h3
        refine jj_iinc (pc2 := 59) hC (x6 + 1) [(6, .int (x6 + 1)), (0, .ref (ad 0)), (1, .ref (ad 37)), (2, .int x2), (3, .long x3), (5, .int x5)] dX11_priceOf_56 5 rfl rfl (by decide) rfl rfl ?_
        refine jj_goto hC 14 dX11_priceOf_59 (by decide) ?_
        exact jj_sub (lv2 := [(0, .ref (ad 0)), (1, .ref (ad 37)), (2, .int x2), (3, .long x3), (5, .int x5), (6, .int (x6 + 1))]) [1, 2, 3, 4, 5, 0] rfl (ih x3 (x6 + 1) hV)
      · have hV := hV.2 h3
        refine jj_lload_n (pc2 := 32) hC dX11_priceOf_31 rfl 3 rfl rfl ?_
        refine jj_aload_n (pc2 := 33) hC dX11_priceOf_32 rfl 0 rfl rfl ?_
        refine rg_31 (pc2 := 36) hC hi_X11_priceOf_X11 lk_X11_priceOf_1 dX11_priceOf_33 rfl ?_
        refine jj_iconst (pc2 := 37) hC 0 dX11_priceOf_36 (by decide) rfl ?_
        refine ra_31 (pc2 := 38) hC (jx_lit (by decide) (by decide)) dX11_priceOf_37 rfl ?_
        refine jj_i2l (pc2 := 39) hC dX11_priceOf_38 rfl ?_
        refine jj_aload_n (pc2 := 40) hC dX11_priceOf_39 rfl 0 rfl rfl ?_
        refine rg_24 (pc2 := 43) hC hi_X11_priceOf_X11 lk_X11_priceOf_2 dX11_priceOf_40 rfl ?_
        refine jj_bipush (pc2 := 45) hC 10 dX11_priceOf_43 (by decide) rfl ?_
        refine jj_iload (pc2 := 47) hC dX11_priceOf_45 4 rfl rfl ?_
        refine jj_imul (pc2 := 48) hC dX11_priceOf_47 rfl ?_
        refine jj_iload (pc2 := 50) hC dX11_priceOf_48 5 rfl rfl ?_
        refine jj_iadd (pc2 := 51) hC dX11_priceOf_50 rfl ?_
        refine ra_24 (pc2 := 52) hC hV.1 dX11_priceOf_51 rfl ?_
        have hV := hV.2
        refine jj_i2l (pc2 := 53) hC dX11_priceOf_52 rfl ?_
        refine jj_lmul (pc2 := 54) hC dX11_priceOf_53 rfl ?_
        refine jj_ladd (pc2 := 55) hC dX11_priceOf_54 rfl ?_
        refine jj_topl (fun y4 ey4 => ?_)
        have hV := hV y4 ey4
        refine jj_lstore_n (pc2 := 56) hC [(3, .long y4), (0, .ref (ad 0)), (1, .ref (ad 37)), (2, .int x2), (5, .int x5), (6, .int x6)] dX11_priceOf_55 rfl (by decide) rfl rfl ?_
        refine jj_iinc (pc2 := 59) hC (x6 + 1) [(6, .int (x6 + 1)), (3, .long y4), (0, .ref (ad 0)), (1, .ref (ad 37)), (2, .int x2), (5, .int x5)] dX11_priceOf_56 5 rfl rfl (by decide) rfl rfl ?_
        refine jj_goto hC 14 dX11_priceOf_59 (by decide) ?_
        exact jj_sub (lv2 := [(0, .ref (ad 0)), (1, .ref (ad 37)), (2, .int x2), (3, .long y4), (5, .int x5), (6, .int (x6 + 1))]) [2, 3, 4, 1, 5, 0] rfl (ih y4 (x6 + 1) hV)
set_option maxHeartbeats 4000000 in
set_option maxRecDepth 100000 in
theorem ar_priceOf_36_5 {p : Program} {l : Launch} {e : Env} {s : State} {m : MethodId} {args : Array Value} {below : List Frame} {meth : Method} {c : Code} {D : va_G} {cs : Nat → ClassId} {Y X : va_W} {ad : Nat → Nat} {g0 : jm_M} (hC : JC p s m args meth c D vwCl (va_A (wr_d Y X cs ad g0) s.heap.size) 9 cX11_priceOf (some .long) wsX11_priceOf RX11 (jt_tys cs)) (x2 : Int32) (Post : Int64 → Prop) (K68 : Int64 → Prop) (hK68 : ∀ (z3 : Int64) , K68 z3 → JJ (wr_d Y X cs ad) p l e rm_X11_priceOf s m args below meth c D vwCl (va_A (wr_d Y X cs ad g0) s.heap.size) 9 0 0 (MQ below (jj_QL (wr_d Y X cs ad) D vwCl (jt_tys cs) g0 s.heap.size (fun r g2 => Post r ∧ g2 = g0)) args s 0 0 (va_A (wr_d Y X cs ad g0) s.heap.size)) 68 [(0, .ref (ad 0)), (1, .ref (ad 37)), (2, .int x2), (3, .long z3)] [] g0) : ∀ (f : Nat) (x3 : Int64) (x5 : Int32), vr_priceOf_5 36 x2 g0 K68 Post f x3 x5 → JJ (wr_d Y X cs ad) p l e rm_X11_priceOf s m args below meth c D vwCl (va_A (wr_d Y X cs ad g0) s.heap.size) 9 0 0 (MQ below (jj_QL (wr_d Y X cs ad) D vwCl (jt_tys cs) g0 s.heap.size (fun r g2 => Post r ∧ g2 = g0)) args s 0 0 (va_A (wr_d Y X cs ad g0) s.heap.size)) 5 [(0, .ref (ad 0)), (1, .ref (ad 37)), (2, .int x2), (3, .long x3), (5, .int x5)] [] g0 := by
  intro f
  induction f with
  | zero => intro x3 x5 hV; exact hV.elim
  | succ f ih =>
    intro x3 x5 hV
    rw [vr_priceOf_5] at hV
    refine jj_iload (pc2 := 7) hC dX11_priceOf_5 4 rfl rfl ?_
    refine jj_iload_n (pc2 := 8) hC dX11_priceOf_7 rfl 2 rfl rfl ?_
    refine jj_icmp_ge (pc2 := 11) hC 68 dX11_priceOf_8 (by decide) rfl (fun h1 => ?_) (fun h1 => ?_)
    · have hV := hV.1 h1
      exact jj_sub (lv2 := [(0, .ref (ad 0)), (1, .ref (ad 37)), (2, .int x2), (3, .long x3)]) [0, 1, 2, 3] rfl (hK68 x3 hV)
    · have hV := hV.2 h1
      refine jj_iconst (pc2 := 12) hC 0 dX11_priceOf_11 (by decide) rfl ?_
      refine jj_istore (pc2 := 14) hC [(6, .int 0), (0, .ref (ad 0)), (1, .ref (ad 37)), (2, .int x2), (3, .long x3), (5, .int x5)] dX11_priceOf_12 (by decide) rfl rfl ?_
      obtain ⟨n6, hV⟩ := hV
      refine jj_sub (lv2 := [(0, .ref (ad 0)), (1, .ref (ad 37)), (2, .int x2), (3, .long x3), (5, .int x5), (6, .int 0)]) [1, 2, 3, 4, 5, 0] rfl (ar_priceOf_36_14 hC x2 x5 Post _ (fun y5 hV => ?_) n6 x3 0 hV)
      refine jj_iinc (pc2 := 65) hC (x5 + 1) [(5, .int (x5 + 1)), (0, .ref (ad 0)), (1, .ref (ad 37)), (2, .int x2), (3, .long y5)] dX11_priceOf_62 4 rfl rfl (by decide) rfl rfl ?_
      refine jj_goto hC 5 dX11_priceOf_65 (by decide) ?_
      exact jj_sub (lv2 := [(0, .ref (ad 0)), (1, .ref (ad 37)), (2, .int x2), (3, .long y5), (5, .int (x5 + 1))]) [1, 2, 3, 4, 0] rfl (ih y5 (x5 + 1) hV)
set_option maxHeartbeats 4000000 in
set_option maxRecDepth 100000 in
theorem ar_priceOf_36_80 {p : Program} {l : Launch} {e : Env} {s : State} {m : MethodId} {args : Array Value} {below : List Frame} {meth : Method} {c : Code} {D : va_G} {cs : Nat → ClassId} {Y X : va_W} {ad : Nat → Nat} {g0 : jm_M} (hC : JC p s m args meth c D vwCl (va_A (wr_d Y X cs ad g0) s.heap.size) 9 cX11_priceOf (some .long) wsX11_priceOf RX11 (jt_tys cs)) (x2 : Int32) (x5 : Int32) (Post : Int64 → Prop) (K173 : Int64 → Prop) (hK173 : ∀ (z3 : Int64) , K173 z3 → JJ (wr_d Y X cs ad) p l e rm_X11_priceOf s m args below meth c D vwCl (va_A (wr_d Y X cs ad g0) s.heap.size) 9 0 0 (MQ below (jj_QL (wr_d Y X cs ad) D vwCl (jt_tys cs) g0 s.heap.size (fun r g2 => Post r ∧ g2 = g0)) args s 0 0 (va_A (wr_d Y X cs ad g0) s.heap.size)) 173 [(0, .ref (ad 0)), (1, .ref (ad 37)), (2, .int x2), (3, .long z3), (5, .int x5)] [] g0) : ∀ (f : Nat) (x3 : Int64) (x6 : Int32), vr_priceOf_80 36 x2 x5 g0 K173 Post f x3 x6 → JJ (wr_d Y X cs ad) p l e rm_X11_priceOf s m args below meth c D vwCl (va_A (wr_d Y X cs ad g0) s.heap.size) 9 0 0 (MQ below (jj_QL (wr_d Y X cs ad) D vwCl (jt_tys cs) g0 s.heap.size (fun r g2 => Post r ∧ g2 = g0)) args s 0 0 (va_A (wr_d Y X cs ad g0) s.heap.size)) 80 [(0, .ref (ad 0)), (1, .ref (ad 37)), (2, .int x2), (3, .long x3), (5, .int x5), (6, .int x6)] [] g0 := by
  intro f
  induction f with
  | zero => intro x3 x6 hV; exact hV.elim
  | succ f ih =>
    intro x3 x6 hV
    rw [vr_priceOf_80] at hV
    refine jj_iload (pc2 := 82) hC dX11_priceOf_80 5 rfl rfl ?_
    refine jj_aload_n (pc2 := 83) hC dX11_priceOf_82 rfl 0 rfl rfl ?_
    refine rg_3 (pc2 := 86) hC hi_X11_priceOf_X11 lk_X11_priceOf_3 dX11_priceOf_83 rfl ?_
    refine jj_icmp_ge (pc2 := 89) hC 173 dX11_priceOf_86 (by decide) rfl (fun h9 => ?_) (fun h9 => ?_)
    · have hV := hV.1 h9
      exact jj_sub (lv2 := [(0, .ref (ad 0)), (1, .ref (ad 37)), (2, .int x2), (3, .long x3), (5, .int x5)]) [0, 1, 2, 3, 4] rfl (hK173 x3 hV)
    · have hV := hV.2 h9
      refine jj_aload_n (pc2 := 90) hC dX11_priceOf_89 rfl 0 rfl rfl ?_
      refine rg_4 (pc2 := 93) hC hi_X11_priceOf_X11 lk_X11_priceOf_4 dX11_priceOf_90 rfl ?_
      refine jj_iload (pc2 := 95) hC dX11_priceOf_93 5 rfl rfl ?_
      refine ra_4 (pc2 := 96) hC hV.1 dX11_priceOf_95 rfl ?_
      have hV := hV.2
      refine jj_iload_n (pc2 := 97) hC dX11_priceOf_96 rfl 2 rfl rfl ?_
      refine jj_icmp_ge (pc2 := 100) hC 167 dX11_priceOf_97 (by decide) rfl (fun h10 => ?_) (fun h10 => ?_)
      · have hV := hV.1 h10
        refine jj_iinc (pc2 := 170) hC (x6 + 1) [(6, .int (x6 + 1)), (0, .ref (ad 0)), (1, .ref (ad 37)), (2, .int x2), (3, .long x3), (5, .int x5)] dX11_priceOf_167 5 rfl rfl (by decide) rfl rfl ?_
        refine jj_goto hC 80 dX11_priceOf_170 (by decide) ?_
        exact jj_sub (lv2 := [(0, .ref (ad 0)), (1, .ref (ad 37)), (2, .int x2), (3, .long x3), (5, .int x5), (6, .int (x6 + 1))]) [1, 2, 3, 4, 5, 0] rfl (ih x3 (x6 + 1) hV)
      · have hV := hV.2 h10
        refine jj_aload_n (pc2 := 101) hC dX11_priceOf_100 rfl 1 rfl rfl ?_
        refine jj_iload (pc2 := 103) hC dX11_priceOf_101 4 rfl rfl ?_
        refine ra_36 (pc2 := 104) hC hV.1 dX11_priceOf_103 rfl ?_
        have hV := hV.2
        refine jj_aload_n (pc2 := 105) hC dX11_priceOf_104 rfl 1 rfl rfl ?_
        refine jj_aload_n (pc2 := 106) hC dX11_priceOf_105 rfl 0 rfl rfl ?_
        refine rg_4 (pc2 := 109) hC hi_X11_priceOf_X11 lk_X11_priceOf_4 dX11_priceOf_106 rfl ?_
        refine jj_iload (pc2 := 111) hC dX11_priceOf_109 5 rfl rfl ?_
        refine ra_4 (pc2 := 112) hC hV.1 dX11_priceOf_111 rfl ?_
        have hV := hV.2
        refine ra_36 (pc2 := 113) hC hV.1 dX11_priceOf_112 rfl ?_
        have hV := hV.2
        refine jj_icmp_ne (pc2 := 116) hC 119 dX11_priceOf_113 (by decide) rfl (fun h11 => ?_) (fun h11 => ?_)
        · have hV := hV.1 h11
          refine jj_lload_n (pc2 := 120) hC dX11_priceOf_119 rfl 3 rfl rfl ?_
          refine jj_aload_n (pc2 := 121) hC dX11_priceOf_120 rfl 0 rfl rfl ?_
          refine rg_31 (pc2 := 124) hC hi_X11_priceOf_X11 lk_X11_priceOf_1 dX11_priceOf_121 rfl ?_
          refine jj_iconst (pc2 := 125) hC 1 dX11_priceOf_124 (by decide) rfl ?_
          refine ra_31 (pc2 := 126) hC (jx_lit (by decide) (by decide)) dX11_priceOf_125 rfl ?_
          refine jj_i2l (pc2 := 127) hC dX11_priceOf_126 rfl ?_
          refine jj_aload_n (pc2 := 128) hC dX11_priceOf_127 rfl 0 rfl rfl ?_
          refine rg_25 (pc2 := 131) hC hi_X11_priceOf_X11 lk_X11_priceOf_5 dX11_priceOf_128 rfl ?_
          refine jj_bipush (pc2 := 133) hC 16 dX11_priceOf_131 (by decide) rfl ?_
          refine jj_iload (pc2 := 135) hC dX11_priceOf_133 4 rfl rfl ?_
          refine jj_imul (pc2 := 136) hC dX11_priceOf_135 rfl ?_
          refine jj_iload (pc2 := 138) hC dX11_priceOf_136 5 rfl rfl ?_
          refine jj_iadd (pc2 := 139) hC dX11_priceOf_138 rfl ?_
          refine ra_25 (pc2 := 140) hC hV.1 dX11_priceOf_139 rfl ?_
          have hV := hV.2
          refine jj_i2l (pc2 := 141) hC dX11_priceOf_140 rfl ?_
          refine jj_lmul (pc2 := 142) hC dX11_priceOf_141 rfl ?_
          refine jj_aload_n (pc2 := 143) hC dX11_priceOf_142 rfl 0 rfl rfl ?_
          refine rg_31 (pc2 := 146) hC hi_X11_priceOf_X11 lk_X11_priceOf_1 dX11_priceOf_143 rfl ?_
          refine jj_iconst (pc2 := 147) hC 2 dX11_priceOf_146 (by decide) rfl ?_
          refine ra_31 (pc2 := 148) hC (jx_lit (by decide) (by decide)) dX11_priceOf_147 rfl ?_
          refine jj_i2l (pc2 := 149) hC dX11_priceOf_148 rfl ?_
          refine jj_aload_n (pc2 := 150) hC dX11_priceOf_149 rfl 0 rfl rfl ?_
          refine rg_26 (pc2 := 153) hC hi_X11_priceOf_X11 lk_X11_priceOf_6 dX11_priceOf_150 rfl ?_
          refine jj_bipush (pc2 := 155) hC 16 dX11_priceOf_153 (by decide) rfl ?_
          refine jj_iload (pc2 := 157) hC dX11_priceOf_155 4 rfl rfl ?_
          refine jj_imul (pc2 := 158) hC dX11_priceOf_157 rfl ?_
          refine jj_iload (pc2 := 160) hC dX11_priceOf_158 5 rfl rfl ?_
          refine jj_iadd (pc2 := 161) hC dX11_priceOf_160 rfl ?_
          refine ra_26 (pc2 := 162) hC hV.1 dX11_priceOf_161 rfl ?_
          have hV := hV.2
          refine jj_i2l (pc2 := 163) hC dX11_priceOf_162 rfl ?_
          refine jj_lmul (pc2 := 164) hC dX11_priceOf_163 rfl ?_
          refine jj_ladd (pc2 := 165) hC dX11_priceOf_164 rfl ?_
          refine jj_ladd (pc2 := 166) hC dX11_priceOf_165 rfl ?_
          refine jj_topl (fun y12 ey12 => ?_)
          have hV := hV y12 ey12
          refine jj_lstore_n (pc2 := 167) hC [(3, .long y12), (0, .ref (ad 0)), (1, .ref (ad 37)), (2, .int x2), (5, .int x5), (6, .int x6)] dX11_priceOf_166 rfl (by decide) rfl rfl ?_
          refine jj_iinc (pc2 := 170) hC (x6 + 1) [(6, .int (x6 + 1)), (3, .long y12), (0, .ref (ad 0)), (1, .ref (ad 37)), (2, .int x2), (5, .int x5)] dX11_priceOf_167 5 rfl rfl (by decide) rfl rfl ?_
          refine jj_goto hC 80 dX11_priceOf_170 (by decide) ?_
          exact jj_sub (lv2 := [(0, .ref (ad 0)), (1, .ref (ad 37)), (2, .int x2), (3, .long y12), (5, .int x5), (6, .int (x6 + 1))]) [2, 3, 4, 1, 5, 0] rfl (ih y12 (x6 + 1) hV)
        · have hV := hV.2 h11
          refine jj_goto hC 167 dX11_priceOf_116 (by decide) ?_
          refine jj_iinc (pc2 := 170) hC (x6 + 1) [(6, .int (x6 + 1)), (0, .ref (ad 0)), (1, .ref (ad 37)), (2, .int x2), (3, .long x3), (5, .int x5)] dX11_priceOf_167 5 rfl rfl (by decide) rfl rfl ?_
          refine jj_goto hC 80 dX11_priceOf_170 (by decide) ?_
          exact jj_sub (lv2 := [(0, .ref (ad 0)), (1, .ref (ad 37)), (2, .int x2), (3, .long x3), (5, .int x5), (6, .int (x6 + 1))]) [1, 2, 3, 4, 5, 0] rfl (ih x3 (x6 + 1) hV)
set_option maxHeartbeats 4000000 in
set_option maxRecDepth 100000 in
theorem ar_priceOf_36_71 {p : Program} {l : Launch} {e : Env} {s : State} {m : MethodId} {args : Array Value} {below : List Frame} {meth : Method} {c : Code} {D : va_G} {cs : Nat → ClassId} {Y X : va_W} {ad : Nat → Nat} {g0 : jm_M} (hC : JC p s m args meth c D vwCl (va_A (wr_d Y X cs ad g0) s.heap.size) 9 cX11_priceOf (some .long) wsX11_priceOf RX11 (jt_tys cs)) (x2 : Int32) (Post : Int64 → Prop) (K179 : Int64 → Prop) (hK179 : ∀ (z3 : Int64) , K179 z3 → JJ (wr_d Y X cs ad) p l e rm_X11_priceOf s m args below meth c D vwCl (va_A (wr_d Y X cs ad g0) s.heap.size) 9 0 0 (MQ below (jj_QL (wr_d Y X cs ad) D vwCl (jt_tys cs) g0 s.heap.size (fun r g2 => Post r ∧ g2 = g0)) args s 0 0 (va_A (wr_d Y X cs ad g0) s.heap.size)) 179 [(0, .ref (ad 0)), (1, .ref (ad 37)), (2, .int x2), (3, .long z3)] [] g0) : ∀ (f : Nat) (x3 : Int64) (x5 : Int32), vr_priceOf_71 36 x2 g0 K179 Post f x3 x5 → JJ (wr_d Y X cs ad) p l e rm_X11_priceOf s m args below meth c D vwCl (va_A (wr_d Y X cs ad g0) s.heap.size) 9 0 0 (MQ below (jj_QL (wr_d Y X cs ad) D vwCl (jt_tys cs) g0 s.heap.size (fun r g2 => Post r ∧ g2 = g0)) args s 0 0 (va_A (wr_d Y X cs ad g0) s.heap.size)) 71 [(0, .ref (ad 0)), (1, .ref (ad 37)), (2, .int x2), (3, .long x3), (5, .int x5)] [] g0 := by
  intro f
  induction f with
  | zero => intro x3 x5 hV; exact hV.elim
  | succ f ih =>
    intro x3 x5 hV
    rw [vr_priceOf_71] at hV
    refine jj_iload (pc2 := 73) hC dX11_priceOf_71 4 rfl rfl ?_
    refine jj_iload_n (pc2 := 74) hC dX11_priceOf_73 rfl 2 rfl rfl ?_
    refine jj_icmp_ge (pc2 := 77) hC 179 dX11_priceOf_74 (by decide) rfl (fun h8 => ?_) (fun h8 => ?_)
    · have hV := hV.1 h8
      exact jj_sub (lv2 := [(0, .ref (ad 0)), (1, .ref (ad 37)), (2, .int x2), (3, .long x3)]) [0, 1, 2, 3] rfl (hK179 x3 hV)
    · have hV := hV.2 h8
      refine jj_iconst (pc2 := 78) hC 0 dX11_priceOf_77 (by decide) rfl ?_
      refine jj_istore (pc2 := 80) hC [(6, .int 0), (0, .ref (ad 0)), (1, .ref (ad 37)), (2, .int x2), (3, .long x3), (5, .int x5)] dX11_priceOf_78 (by decide) rfl rfl ?_
      obtain ⟨n14, hV⟩ := hV
      refine jj_sub (lv2 := [(0, .ref (ad 0)), (1, .ref (ad 37)), (2, .int x2), (3, .long x3), (5, .int x5), (6, .int 0)]) [1, 2, 3, 4, 5, 0] rfl (ar_priceOf_36_80 hC x2 x5 Post _ (fun y13 hV => ?_) n14 x3 0 hV)
      refine jj_iinc (pc2 := 176) hC (x5 + 1) [(5, .int (x5 + 1)), (0, .ref (ad 0)), (1, .ref (ad 37)), (2, .int x2), (3, .long y13)] dX11_priceOf_173 4 rfl rfl (by decide) rfl rfl ?_
      refine jj_goto hC 71 dX11_priceOf_176 (by decide) ?_
      exact jj_sub (lv2 := [(0, .ref (ad 0)), (1, .ref (ad 37)), (2, .int x2), (3, .long y13), (5, .int (x5 + 1))]) [1, 2, 3, 4, 0] rfl (ih y13 (x5 + 1) hV)
set_option maxHeartbeats 4000000 in
set_option maxRecDepth 100000 in
theorem ar_priceOf_36_209 {p : Program} {l : Launch} {e : Env} {s : State} {m : MethodId} {args : Array Value} {below : List Frame} {meth : Method} {c : Code} {D : va_G} {cs : Nat → ClassId} {Y X : va_W} {ad : Nat → Nat} {g0 : jm_M} (hC : JC p s m args meth c D vwCl (va_A (wr_d Y X cs ad g0) s.heap.size) 9 cX11_priceOf (some .long) wsX11_priceOf RX11 (jt_tys cs)) (x2 : Int32) (x3 : Int64) (x5 : Int32) (Post : Int64 → Prop) (K243 : Int32 → Prop) (hK243 : ∀ (z6 : Int32) , K243 z6 → JJ (wr_d Y X cs ad) p l e rm_X11_priceOf s m args below meth c D vwCl (va_A (wr_d Y X cs ad g0) s.heap.size) 9 0 0 (MQ below (jj_QL (wr_d Y X cs ad) D vwCl (jt_tys cs) g0 s.heap.size (fun r g2 => Post r ∧ g2 = g0)) args s 0 0 (va_A (wr_d Y X cs ad g0) s.heap.size)) 243 [(0, .ref (ad 0)), (1, .ref (ad 37)), (2, .int x2), (3, .long x3), (5, .int x5), (6, .int z6)] [] g0) : ∀ (f : Nat) (x6 : Int32) (x7 : Int32), vr_priceOf_209 36 x2 x3 x5 g0 K243 Post f x6 x7 → JJ (wr_d Y X cs ad) p l e rm_X11_priceOf s m args below meth c D vwCl (va_A (wr_d Y X cs ad g0) s.heap.size) 9 0 0 (MQ below (jj_QL (wr_d Y X cs ad) D vwCl (jt_tys cs) g0 s.heap.size (fun r g2 => Post r ∧ g2 = g0)) args s 0 0 (va_A (wr_d Y X cs ad g0) s.heap.size)) 209 [(0, .ref (ad 0)), (1, .ref (ad 37)), (2, .int x2), (3, .long x3), (5, .int x5), (6, .int x6), (7, .int x7)] [] g0 := by
  intro f
  induction f with
  | zero => intro x6 x7 hV; exact hV.elim
  | succ f ih =>
    intro x6 x7 hV
    rw [vr_priceOf_209] at hV
    refine jj_iload (pc2 := 211) hC dX11_priceOf_209 6 rfl rfl ?_
    refine jj_iload_n (pc2 := 212) hC dX11_priceOf_211 rfl 2 rfl rfl ?_
    refine jj_icmp_ge (pc2 := 215) hC 243 dX11_priceOf_212 (by decide) rfl (fun h18 => ?_) (fun h18 => ?_)
    · have hV := hV.1 h18
      exact jj_sub (lv2 := [(0, .ref (ad 0)), (1, .ref (ad 37)), (2, .int x2), (3, .long x3), (5, .int x5), (6, .int x6)]) [0, 1, 2, 3, 4, 5] rfl (hK243 x6 hV)
    · have hV := hV.2 h18
      refine jj_iload (pc2 := 217) hC dX11_priceOf_215 4 rfl rfl ?_
      refine jj_iload (pc2 := 219) hC dX11_priceOf_217 6 rfl rfl ?_
      refine jj_ishr (pc2 := 220) hC dX11_priceOf_219 rfl ?_
      refine jj_iconst (pc2 := 221) hC 1 dX11_priceOf_220 (by decide) rfl ?_
      refine jj_iand (pc2 := 222) hC dX11_priceOf_221 rfl ?_
      refine jj_iconst (pc2 := 223) hC 1 dX11_priceOf_222 (by decide) rfl ?_
      refine jj_icmp_ne (pc2 := 226) hC 237 dX11_priceOf_223 (by decide) rfl (fun h19 => ?_) (fun h19 => ?_)
      · have hV := hV.1 h19
        refine jj_iinc (pc2 := 240) hC (x7 + 1) [(7, .int (x7 + 1)), (0, .ref (ad 0)), (1, .ref (ad 37)), (2, .int x2), (3, .long x3), (5, .int x5), (6, .int x6)] dX11_priceOf_237 6 rfl rfl (by decide) rfl rfl ?_
        refine jj_goto hC 209 dX11_priceOf_240 (by decide) ?_
        exact jj_sub (lv2 := [(0, .ref (ad 0)), (1, .ref (ad 37)), (2, .int x2), (3, .long x3), (5, .int x5), (6, .int x6), (7, .int (x7 + 1))]) [1, 2, 3, 4, 5, 6, 0] rfl (ih x6 (x7 + 1) hV)
      · have hV := hV.2 h19
        refine jj_iload (pc2 := 228) hC dX11_priceOf_226 5 rfl rfl ?_
        refine jj_iconst (pc2 := 229) hC 1 dX11_priceOf_228 (by decide) rfl ?_
        refine jj_aload_n (pc2 := 230) hC dX11_priceOf_229 rfl 1 rfl rfl ?_
        refine jj_iload (pc2 := 232) hC dX11_priceOf_230 6 rfl rfl ?_
        refine ra_36 (pc2 := 233) hC hV.1 dX11_priceOf_232 rfl ?_
        have hV := hV.2
        refine jj_ishl (pc2 := 234) hC dX11_priceOf_233 rfl ?_
        refine jj_ior (pc2 := 235) hC dX11_priceOf_234 rfl ?_
        refine jj_topi (fun y20 ey20 => ?_)
        have hV := hV y20 ey20
        refine jj_istore (pc2 := 237) hC [(6, .int y20), (0, .ref (ad 0)), (1, .ref (ad 37)), (2, .int x2), (3, .long x3), (5, .int x5), (7, .int x7)] dX11_priceOf_235 (by decide) rfl rfl ?_
        refine jj_iinc (pc2 := 240) hC (x7 + 1) [(7, .int (x7 + 1)), (6, .int y20), (0, .ref (ad 0)), (1, .ref (ad 37)), (2, .int x2), (3, .long x3), (5, .int x5)] dX11_priceOf_237 6 rfl rfl (by decide) rfl rfl ?_
        refine jj_goto hC 209 dX11_priceOf_240 (by decide) ?_
        exact jj_sub (lv2 := [(0, .ref (ad 0)), (1, .ref (ad 37)), (2, .int x2), (3, .long x3), (5, .int x5), (6, .int y20), (7, .int (x7 + 1))]) [2, 3, 4, 5, 6, 1, 0] rfl (ih y20 (x7 + 1) hV)
set_option maxHeartbeats 4000000 in
set_option maxRecDepth 100000 in
theorem ar_priceOf_36_249 {p : Program} {l : Launch} {e : Env} {s : State} {m : MethodId} {args : Array Value} {below : List Frame} {meth : Method} {c : Code} {D : va_G} {cs : Nat → ClassId} {Y X : va_W} {ad : Nat → Nat} {g0 : jm_M} (hC : JC p s m args meth c D vwCl (va_A (wr_d Y X cs ad g0) s.heap.size) 9 cX11_priceOf (some .long) wsX11_priceOf RX11 (jt_tys cs)) (x2 : Int32) (x3 : Int64) (x5 : Int32) (x6 : Int32) (Post : Int64 → Prop) (K274 : Int32 → Prop) (hK274 : ∀ (z7 : Int32) , K274 z7 → JJ (wr_d Y X cs ad) p l e rm_X11_priceOf s m args below meth c D vwCl (va_A (wr_d Y X cs ad g0) s.heap.size) 9 0 0 (MQ below (jj_QL (wr_d Y X cs ad) D vwCl (jt_tys cs) g0 s.heap.size (fun r g2 => Post r ∧ g2 = g0)) args s 0 0 (va_A (wr_d Y X cs ad g0) s.heap.size)) 274 [(0, .ref (ad 0)), (1, .ref (ad 37)), (2, .int x2), (3, .long x3), (5, .int x5), (7, .int z7)] [] g0) : ∀ (f : Nat) (x7 : Int32) (x8 : Int32), vr_priceOf_249 36 x2 x3 x5 x6 g0 K274 Post f x7 x8 → JJ (wr_d Y X cs ad) p l e rm_X11_priceOf s m args below meth c D vwCl (va_A (wr_d Y X cs ad g0) s.heap.size) 9 0 0 (MQ below (jj_QL (wr_d Y X cs ad) D vwCl (jt_tys cs) g0 s.heap.size (fun r g2 => Post r ∧ g2 = g0)) args s 0 0 (va_A (wr_d Y X cs ad g0) s.heap.size)) 249 [(0, .ref (ad 0)), (1, .ref (ad 37)), (2, .int x2), (3, .long x3), (5, .int x5), (6, .int x6), (7, .int x7), (8, .int x8)] [] g0 := by
  intro f
  induction f with
  | zero => intro x7 x8 hV; exact hV.elim
  | succ f ih =>
    intro x7 x8 hV
    rw [vr_priceOf_249] at hV
    refine jj_iload (pc2 := 251) hC dX11_priceOf_249 7 rfl rfl ?_
    refine jj_bipush (pc2 := 253) hC 6 dX11_priceOf_251 (by decide) rfl ?_
    refine jj_icmp_ge (pc2 := 256) hC 274 dX11_priceOf_253 (by decide) rfl (fun h22 => ?_) (fun h22 => ?_)
    · have hV := hV.1 h22
      exact jj_sub (lv2 := [(0, .ref (ad 0)), (1, .ref (ad 37)), (2, .int x2), (3, .long x3), (5, .int x5), (7, .int x7)]) [0, 1, 2, 3, 4, 6] rfl (hK274 x7 hV)
    · have hV := hV.2 h22
      refine jj_iload (pc2 := 258) hC dX11_priceOf_256 6 rfl rfl ?_
      refine jj_iload (pc2 := 260) hC dX11_priceOf_258 5 rfl rfl ?_
      refine jj_iload (pc2 := 262) hC dX11_priceOf_260 7 rfl rfl ?_
      refine jj_ishr (pc2 := 263) hC dX11_priceOf_262 rfl ?_
      refine jj_iconst (pc2 := 264) hC 1 dX11_priceOf_263 (by decide) rfl ?_
      refine jj_iand (pc2 := 265) hC dX11_priceOf_264 rfl ?_
      refine jj_iadd (pc2 := 266) hC dX11_priceOf_265 rfl ?_
      refine jj_topi (fun y23 ey23 => ?_)
      have hV := hV y23 ey23
      refine jj_istore (pc2 := 268) hC [(7, .int y23), (0, .ref (ad 0)), (1, .ref (ad 37)), (2, .int x2), (3, .long x3), (5, .int x5), (6, .int x6), (8, .int x8)] dX11_priceOf_266 (by decide) rfl rfl ?_
      refine jj_iinc (pc2 := 271) hC (x8 + 1) [(8, .int (x8 + 1)), (7, .int y23), (0, .ref (ad 0)), (1, .ref (ad 37)), (2, .int x2), (3, .long x3), (5, .int x5), (6, .int x6)] dX11_priceOf_268 7 rfl rfl (by decide) rfl rfl ?_
      refine jj_goto hC 249 dX11_priceOf_271 (by decide) ?_
      exact jj_sub (lv2 := [(0, .ref (ad 0)), (1, .ref (ad 37)), (2, .int x2), (3, .long x3), (5, .int x5), (6, .int x6), (7, .int y23), (8, .int (x8 + 1))]) [2, 3, 4, 5, 6, 7, 1, 0] rfl (ih y23 (x8 + 1) hV)
set_option maxHeartbeats 4000000 in
set_option maxRecDepth 100000 in
theorem ar_priceOf_36_182 {p : Program} {l : Launch} {e : Env} {s : State} {m : MethodId} {args : Array Value} {below : List Frame} {meth : Method} {c : Code} {D : va_G} {cs : Nat → ClassId} {Y X : va_W} {ad : Nat → Nat} {g0 : jm_M} (hC : JC p s m args meth c D vwCl (va_A (wr_d Y X cs ad g0) s.heap.size) 9 cX11_priceOf (some .long) wsX11_priceOf RX11 (jt_tys cs)) (x2 : Int32) (Post : Int64 → Prop) : ∀ (f : Nat) (x3 : Int64) (x5 : Int32), vr_priceOf_182 36 x2 g0 Post f x3 x5 → JJ (wr_d Y X cs ad) p l e rm_X11_priceOf s m args below meth c D vwCl (va_A (wr_d Y X cs ad g0) s.heap.size) 9 0 0 (MQ below (jj_QL (wr_d Y X cs ad) D vwCl (jt_tys cs) g0 s.heap.size (fun r g2 => Post r ∧ g2 = g0)) args s 0 0 (va_A (wr_d Y X cs ad g0) s.heap.size)) 182 [(0, .ref (ad 0)), (1, .ref (ad 37)), (2, .int x2), (3, .long x3), (5, .int x5)] [] g0 := by
  intro f
  induction f with
  | zero => intro x3 x5 hV; exact hV.elim
  | succ f ih =>
    intro x3 x5 hV
    rw [vr_priceOf_182] at hV
    refine jj_iload (pc2 := 184) hC dX11_priceOf_182 4 rfl rfl ?_
    refine jj_sipush (pc2 := 187) hC 1024 dX11_priceOf_184 (by decide) rfl ?_
    refine jj_icmp_ge (pc2 := 190) hC 311 dX11_priceOf_187 (by decide) rfl (fun h16 => ?_) (fun h16 => ?_)
    · have hV := hV.1 h16
      refine jj_lload_n (pc2 := 312) hC dX11_priceOf_311 rfl 3 rfl rfl ?_
      exact jj_lret hC dX11_priceOf_312 ⟨hV, rfl⟩
    · have hV := hV.2 h16
      refine jj_aload_n (pc2 := 191) hC dX11_priceOf_190 rfl 0 rfl rfl ?_
      refine rg_27 (pc2 := 194) hC hi_X11_priceOf_X11 lk_X11_priceOf_7 dX11_priceOf_191 rfl ?_
      refine jj_iload (pc2 := 196) hC dX11_priceOf_194 4 rfl rfl ?_
      refine ra_27 (pc2 := 197) hC hV.1 dX11_priceOf_196 rfl ?_
      have hV := hV.2
      refine jj_if_ne (pc2 := 200) hC 203 dX11_priceOf_197 (by decide) rfl (fun h17 => ?_) (fun h17 => ?_)
      · have hV := hV.1 h17
        refine jj_iconst (pc2 := 204) hC 0 dX11_priceOf_203 (by decide) rfl ?_
        refine jj_istore (pc2 := 206) hC [(6, .int 0), (0, .ref (ad 0)), (1, .ref (ad 37)), (2, .int x2), (3, .long x3), (5, .int x5)] dX11_priceOf_204 (by decide) rfl rfl ?_
        refine jj_iconst (pc2 := 207) hC 0 dX11_priceOf_206 (by decide) rfl ?_
        refine jj_istore (pc2 := 209) hC [(7, .int 0), (6, .int 0), (0, .ref (ad 0)), (1, .ref (ad 37)), (2, .int x2), (3, .long x3), (5, .int x5)] dX11_priceOf_207 (by decide) rfl rfl ?_
        obtain ⟨n28, hV⟩ := hV
        refine jj_sub (lv2 := [(0, .ref (ad 0)), (1, .ref (ad 37)), (2, .int x2), (3, .long x3), (5, .int x5), (6, .int 0), (7, .int 0)]) [2, 3, 4, 5, 6, 1, 0] rfl (ar_priceOf_36_209 hC x2 x3 x5 Post _ (fun y21 hV => ?_) n28 0 0 hV)
        refine jj_iconst (pc2 := 244) hC 0 dX11_priceOf_243 (by decide) rfl ?_
        refine jj_istore (pc2 := 246) hC [(7, .int 0), (0, .ref (ad 0)), (1, .ref (ad 37)), (2, .int x2), (3, .long x3), (5, .int x5), (6, .int y21)] dX11_priceOf_244 (by decide) rfl rfl ?_
        refine jj_iconst (pc2 := 247) hC 0 dX11_priceOf_246 (by decide) rfl ?_
        refine jj_istore (pc2 := 249) hC [(8, .int 0), (7, .int 0), (0, .ref (ad 0)), (1, .ref (ad 37)), (2, .int x2), (3, .long x3), (5, .int x5), (6, .int y21)] dX11_priceOf_247 (by decide) rfl rfl ?_
        obtain ⟨n27, hV⟩ := hV
        refine jj_sub (lv2 := [(0, .ref (ad 0)), (1, .ref (ad 37)), (2, .int x2), (3, .long x3), (5, .int x5), (6, .int y21), (7, .int 0), (8, .int 0)]) [2, 3, 4, 5, 6, 7, 1, 0] rfl (ar_priceOf_36_249 hC x2 x3 x5 y21 Post _ (fun y24 hV => ?_) n27 0 0 hV)
        refine jj_iload (pc2 := 276) hC dX11_priceOf_274 5 rfl rfl ?_
        refine jj_iconst (pc2 := 277) hC 1 dX11_priceOf_276 (by decide) rfl ?_
        refine jj_icmp_le (pc2 := 280) hC 305 dX11_priceOf_277 (by decide) rfl (fun h25 => ?_) (fun h25 => ?_)
        · have hV := hV.1 h25
          refine jj_iinc (pc2 := 308) hC (x5 + 1) [(5, .int (x5 + 1)), (0, .ref (ad 0)), (1, .ref (ad 37)), (2, .int x2), (3, .long x3), (7, .int y24)] dX11_priceOf_305 4 rfl rfl (by decide) rfl rfl ?_
          refine jj_goto hC 182 dX11_priceOf_308 (by decide) ?_
          exact jj_sub (lv2 := [(0, .ref (ad 0)), (1, .ref (ad 37)), (2, .int x2), (3, .long x3), (5, .int (x5 + 1))]) [1, 2, 3, 4, 0] rfl (ih x3 (x5 + 1) hV)
        · have hV := hV.2 h25
          refine jj_lload_n (pc2 := 281) hC dX11_priceOf_280 rfl 3 rfl rfl ?_
          refine jj_aload_n (pc2 := 282) hC dX11_priceOf_281 rfl 0 rfl rfl ?_
          refine rg_31 (pc2 := 285) hC hi_X11_priceOf_X11 lk_X11_priceOf_1 dX11_priceOf_282 rfl ?_
          refine jj_iconst (pc2 := 286) hC 3 dX11_priceOf_285 (by decide) rfl ?_
          refine ra_31 (pc2 := 287) hC (jx_lit (by decide) (by decide)) dX11_priceOf_286 rfl ?_
          refine jj_i2l (pc2 := 288) hC dX11_priceOf_287 rfl ?_
          refine jj_aload_n (pc2 := 289) hC dX11_priceOf_288 rfl 0 rfl rfl ?_
          refine rg_27 (pc2 := 292) hC hi_X11_priceOf_X11 lk_X11_priceOf_7 dX11_priceOf_289 rfl ?_
          refine jj_iload (pc2 := 294) hC dX11_priceOf_292 4 rfl rfl ?_
          refine ra_27 (pc2 := 295) hC hV.1 dX11_priceOf_294 rfl ?_
          have hV := hV.2
          refine jj_i2l (pc2 := 296) hC dX11_priceOf_295 rfl ?_
          refine jj_lmul (pc2 := 297) hC dX11_priceOf_296 rfl ?_
          refine jj_iload (pc2 := 299) hC dX11_priceOf_297 5 rfl rfl ?_
          refine jj_iconst (pc2 := 300) hC 1 dX11_priceOf_299 (by decide) rfl ?_
          refine jj_isub (pc2 := 301) hC dX11_priceOf_300 rfl ?_
          refine jj_i2l (pc2 := 302) hC dX11_priceOf_301 rfl ?_
          refine jj_lmul (pc2 := 303) hC dX11_priceOf_302 rfl ?_
          refine jj_ladd (pc2 := 304) hC dX11_priceOf_303 rfl ?_
          refine jj_topl (fun y26 ey26 => ?_)
          have hV := hV y26 ey26
          refine jj_lstore_n (pc2 := 305) hC [(3, .long y26), (0, .ref (ad 0)), (1, .ref (ad 37)), (2, .int x2), (5, .int x5), (7, .int y24)] dX11_priceOf_304 rfl (by decide) rfl rfl ?_
          refine jj_iinc (pc2 := 308) hC (x5 + 1) [(5, .int (x5 + 1)), (3, .long y26), (0, .ref (ad 0)), (1, .ref (ad 37)), (2, .int x2), (7, .int y24)] dX11_priceOf_305 4 rfl rfl (by decide) rfl rfl ?_
          refine jj_goto hC 182 dX11_priceOf_308 (by decide) ?_
          exact jj_sub (lv2 := [(0, .ref (ad 0)), (1, .ref (ad 37)), (2, .int x2), (3, .long y26), (5, .int (x5 + 1))]) [2, 3, 4, 1, 0] rfl (ih y26 (x5 + 1) hV)
      · have hV := hV.2 h17
        refine jj_goto hC 305 dX11_priceOf_200 (by decide) ?_
        refine jj_iinc (pc2 := 308) hC (x5 + 1) [(5, .int (x5 + 1)), (0, .ref (ad 0)), (1, .ref (ad 37)), (2, .int x2), (3, .long x3)] dX11_priceOf_305 4 rfl rfl (by decide) rfl rfl ?_
        refine jj_goto hC 182 dX11_priceOf_308 (by decide) ?_
        exact jj_sub (lv2 := [(0, .ref (ad 0)), (1, .ref (ad 37)), (2, .int x2), (3, .long x3), (5, .int (x5 + 1))]) [1, 2, 3, 4, 0] rfl (ih x3 (x5 + 1) hV)
set_option maxHeartbeats 4000000 in
set_option maxRecDepth 100000 in
theorem cr_priceOf_36 (l : Launch) (D : va_G) (cs : Nat → ClassId) (Y X : va_W) (ad : Nat → Nat) (a2 : Int32) (g0 : jm_M) (Post : Int64 → Prop) (hV : vr_priceOf 36 a2 g0 Post) : JL (wr_d Y X cs ad) D vwCl (jt_tys cs) l yX11_priceOf wsX11_priceOf rm_X11_priceOf 0 0 [.ref (ad 0), .ref (ad 37), .int a2] g0 (fun r g2 => Post r ∧ g2 = g0) := by
  refine jj_metL (cc := cX11_priceOf) (nL := 9) (ret := (some .long)) (by decide) rfl (Nat.le_of_ble_eq_true rfl) [(0, .ref (ad 0)), (1, .ref (ad 37)), (2, .int a2)] rfl ?_
  intro p e s m args below meth c hC hnm
  rw [vr_priceOf] at hV
  refine jj_lconst (pc2 := 1) hC 0 dX11_priceOf_0 (by decide) rfl ?_
  refine jj_lstore_n (pc2 := 2) hC [(3, .long 0), (0, .ref (ad 0)), (1, .ref (ad 37)), (2, .int a2)] dX11_priceOf_1 rfl (by decide) rfl rfl ?_
  refine jj_iconst (pc2 := 3) hC 0 dX11_priceOf_2 (by decide) rfl ?_
  refine jj_istore (pc2 := 5) hC [(5, .int 0), (3, .long 0), (0, .ref (ad 0)), (1, .ref (ad 37)), (2, .int a2)] dX11_priceOf_3 (by decide) rfl rfl ?_
  obtain ⟨n31, hV⟩ := hV
  refine jj_sub (lv2 := [(0, .ref (ad 0)), (1, .ref (ad 37)), (2, .int a2), (3, .long 0), (5, .int 0)]) [2, 3, 4, 1, 0] rfl (ar_priceOf_36_5 hC a2 Post _ (fun y7 hV => ?_) n31 0 0 hV)
  refine jj_iconst (pc2 := 69) hC 0 dX11_priceOf_68 (by decide) rfl ?_
  refine jj_istore (pc2 := 71) hC [(5, .int 0), (0, .ref (ad 0)), (1, .ref (ad 37)), (2, .int a2), (3, .long y7)] dX11_priceOf_69 (by decide) rfl rfl ?_
  obtain ⟨n30, hV⟩ := hV
  refine jj_sub (lv2 := [(0, .ref (ad 0)), (1, .ref (ad 37)), (2, .int a2), (3, .long y7), (5, .int 0)]) [1, 2, 3, 4, 0] rfl (ar_priceOf_36_71 hC a2 Post _ (fun y15 hV => ?_) n30 y7 0 hV)
  refine jj_iconst (pc2 := 180) hC 1 dX11_priceOf_179 (by decide) rfl ?_
  refine jj_istore (pc2 := 182) hC [(5, .int 1), (0, .ref (ad 0)), (1, .ref (ad 37)), (2, .int a2), (3, .long y15)] dX11_priceOf_180 (by decide) rfl rfl ?_
  obtain ⟨n29, hV⟩ := hV
  refine jj_sub (lv2 := [(0, .ref (ad 0)), (1, .ref (ad 37)), (2, .int a2), (3, .long y15), (5, .int 1)]) [1, 2, 3, 4, 0] rfl (ar_priceOf_36_182 hC a2 Post n29 y15 1 hV)
theorem hi_X11_price_X11 : ∀ w ∈ u_ws RX11 TX11 63, w ∈ wsX11_price := fun _ h => List.mem_cons_of_mem _ (List.mem_append_right _ h)
theorem lk_X11_price_2 : Cond.fieldLink RX11 148 "PartedHouseModel" "modules" "I" ∈ wsX11_price := List.mem_of_getElem? (i := 2) rfl
theorem lk_X11_price_1 : Cond.fieldLink RX11 74 "PartedHouseModel" "room" "[I" ∈ wsX11_price := List.mem_of_getElem? (i := 1) rfl
abbrev rm_X11_price : Room := { frames := 1, cells := 0, slots := 0, locals := 28 }
def vr_price (g0 : jm_M) (Post : Int64 → Prop) : Prop := vr_priceOf 30 (g0 1 0) g0 (fun (r1 : Int64) => Post r1)
set_option maxHeartbeats 4000000 in
set_option maxRecDepth 100000 in
theorem cr_price (l : Launch) (D : va_G) (cs : Nat → ClassId) (Y X : va_W) (ad : Nat → Nat) (g0 : jm_M) (Post : Int64 → Prop) (hV : vr_price g0 Post) : JL (wr_d Y X cs ad) D vwCl (jt_tys cs) l yX11_price wsX11_price rm_X11_price 0 0 [.ref (ad 0)] g0 (fun r g2 => Post r ∧ g2 = g0) := by
  refine jj_metL (cc := cX11_price) (nL := 1) (ret := (some .long)) (by decide) rfl (Nat.le_of_ble_eq_true rfl) [(0, .ref (ad 0))] rfl ?_
  intro p e s m args below meth c hC hnm
  rw [vr_price] at hV
  refine jj_aload_n (pc2 := 1) hC dX11_price_0 rfl 0 rfl rfl ?_
  refine jj_aload_n (pc2 := 2) hC dX11_price_1 rfl 0 rfl rfl ?_
  refine rg_30 (pc2 := 5) hC hi_X11_price_X11 lk_X11_price_1 dX11_price_2 rfl ?_
  refine jj_aload_n (pc2 := 6) hC dX11_price_5 rfl 0 rfl rfl ?_
  refine rg_1 (pc2 := 9) hC hi_X11_price_X11 lk_X11_price_2 dX11_price_6 rfl ?_
  refine jj_cVLp (pc2 := 12) (wd := wr_d Y X cs ad) (g := g0) (rest := []) hC (Y.length + 0) (jx_at (V := wr_W cs ad g0) rfl) rfl rfl (cr_priceOf_30 l D cs Y X ad (g0 1 0) g0 _ hV) (cwV 2 hC.1.2.2.2.2 gX11_price_X11_priceOf rfl rfl rfl (by decide +kernel) ⟨by decide, by decide⟩) rfl (Nat.le_of_ble_eq_true rfl) _ rfl dX11_price_9 ⟨Nat.zero_le _, Nat.zero_le _⟩ rfl (fun r1 hV => ?_)
  exact jj_lret hC dX11_price_12 ⟨hV, rfl⟩
theorem hi_X11_mayBe_X11 : ∀ w ∈ u_ws RX11 TX11 63, w ∈ wsX11_mayBe := fun _ h => List.mem_cons_of_mem _ (List.mem_append_right _ h)
theorem lk_X11_mayBe_1 : Cond.fieldLink RX11 89 "PartedHouseModel" "filled" "[I" ∈ wsX11_mayBe := List.mem_of_getElem? (i := 1) rfl
theorem lk_X11_mayBe_3 : Cond.fieldLink RX11 7 "PartedHouseModel" "size" "[I" ∈ wsX11_mayBe := List.mem_of_getElem? (i := 3) rfl
theorem lk_X11_mayBe_2 : Cond.fieldLink RX11 86 "PartedHouseModel" "trial" "[I" ∈ wsX11_mayBe := List.mem_of_getElem? (i := 2) rfl
theorem lk_X11_mayBe_4 : Cond.fieldLink RX11 80 "PartedHouseModel" "how" "[I" ∈ wsX11_mayBe := List.mem_of_getElem? (i := 4) rfl
abbrev rm_X11_mayBe : Room := { frames := 0, cells := 0, slots := 0, locals := 0 }
def vr_mayBe_2 (x1 : Int32) (x2 : Int32) (K21 : jm_M → Prop) (Post : Int32 → jm_M → Prop) : Nat → Int32 → jm_M → Prop
  | 0, _, _ => False
  | f + 1, x3, g => ((6 ≤ x3) → (K21 g)) ∧ ((¬ 6 ≤ x3) → ((vp_in x3 6) ∧ (∀ g2 : jm_M, g2 = jm_a g 37 x3 0 → (vr_mayBe_2 x1 x2 K21 Post f (x3 + 1) g2))))
def vr_mayBe_23 (x1 : Int32) (x2 : Int32) (K54 : jm_M → Prop) (Post : Int32 → jm_M → Prop) : Nat → Int32 → jm_M → Prop
  | 0, _, _ => False
  | f + 1, x3, g => ((x1 < x3) → (K54 g)) ∧ ((¬ x1 < x3) → ((vp_in x3 10) ∧ ((vp_in (g 36 x3.toNatClampNeg) 6) ∧ ((vp_in x3 10) ∧ ((vp_in (g 36 x3.toNatClampNeg) 6) ∧ (∀ g5 : jm_M, g5 = jm_a g 37 (g 36 x3.toNatClampNeg) ((g 37 (g 36 x3.toNatClampNeg).toNatClampNeg) + (g 2 x3.toNatClampNeg)) → (vr_mayBe_23 x1 x2 K54 Post f (x3 + 1) g5)))))))
def vr_mayBe_73 (x1 : Int32) (g : jm_M) (Post : Int32 → jm_M → Prop) : Nat → Int32 → Prop
  | 0, _ => False
  | f + 1, x3 => ((x1 ≤ x3) → (Post 1 g)) ∧ ((¬ x1 ≤ x3) → ((vp_in (((10 : Int32) * x3) + x1) 100) ∧ (∀ y9 : Int32, y9 = g 32 (((10 : Int32) * x3) + x1).toNatClampNeg → (((¬ y9 = 1) → (((¬ y9 = 2) → (vr_mayBe_73 x1 g Post f (x3 + 1))) ∧ ((y9 = 2) → ((vp_in x3 10) ∧ ((vp_in x1 10) ∧ (((¬ (g 36 x3.toNatClampNeg) = (g 36 x1.toNatClampNeg)) → (vr_mayBe_73 x1 g Post f (x3 + 1))) ∧ (((g 36 x3.toNatClampNeg) = (g 36 x1.toNatClampNeg)) → (Post 0 g)))))))) ∧ ((y9 = 1) → ((vp_in x3 10) ∧ ((vp_in x1 10) ∧ (((¬ (g 36 x3.toNatClampNeg) = (g 36 x1.toNatClampNeg)) → (Post 0 g)) ∧ (((g 36 x3.toNatClampNeg) = (g 36 x1.toNatClampNeg)) → (((¬ y9 = 2) → (vr_mayBe_73 x1 g Post f (x3 + 1))) ∧ ((y9 = 2) → ((vp_in x3 10) ∧ ((vp_in x1 10) ∧ (((¬ (g 36 x3.toNatClampNeg) = (g 36 x1.toNatClampNeg)) → (vr_mayBe_73 x1 g Post f (x3 + 1))) ∧ (((g 36 x3.toNatClampNeg) = (g 36 x1.toNatClampNeg)) → (Post 0 g))))))))))))))))
def vr_mayBe (a1 : Int32) (a2 : Int32) (g0 : jm_M) (Post : Int32 → jm_M → Prop) : Prop := ∃ n18 : Nat, vr_mayBe_2 a1 a2 (fun (g3 : jm_M) => ∃ n17 : Nat, vr_mayBe_23 a1 a2 (fun (g6 : jm_M) => (vp_in a1 10) ∧ ((vp_in (g6 36 a1.toNatClampNeg) 6) ∧ ((((g6 37 (g6 36 a1.toNatClampNeg).toNatClampNeg) ≤ a2) → (∃ n16 : Nat, vr_mayBe_73 a1 g6 Post n16 0)) ∧ ((¬ (g6 37 (g6 36 a1.toNatClampNeg).toNatClampNeg) ≤ a2) → (Post 0 g6))))) Post n17 0 g3) Post n18 0 g0
set_option maxHeartbeats 4000000 in
set_option maxRecDepth 100000 in
theorem ar_mayBe_2 {p : Program} {l : Launch} {e : Env} {s : State} {m : MethodId} {args : Array Value} {below : List Frame} {meth : Method} {c : Code} {D : va_G} {cs : Nat → ClassId} {Y X : va_W} {ad : Nat → Nat} {g0 : jm_M} (hC : JC p s m args meth c D vwCl (va_A (wr_d Y X cs ad g0) s.heap.size) 5 cX11_mayBe (some .boolean) wsX11_mayBe RX11 (jt_tys cs)) (x1 : Int32) (x2 : Int32) (Post : Int32 → jm_M → Prop) (K21 : jm_M → Prop) (hK21 : ∀ (g : jm_M) , K21 g → JJ (wr_d Y X cs ad) p l e rm_X11_mayBe s m args below meth c D vwCl (va_A (wr_d Y X cs ad g0) s.heap.size) 5 0 0 (MQ below (jj_QI (wr_d Y X cs ad) D vwCl (jt_tys cs) g0 s.heap.size Post) args s 0 0 (va_A (wr_d Y X cs ad g0) s.heap.size)) 21 [(0, .ref (ad 0)), (1, .int x1), (2, .int x2)] [] g) : ∀ (f : Nat) (x3 : Int32) (g : jm_M), vr_mayBe_2 x1 x2 K21 Post f x3 g → JJ (wr_d Y X cs ad) p l e rm_X11_mayBe s m args below meth c D vwCl (va_A (wr_d Y X cs ad g0) s.heap.size) 5 0 0 (MQ below (jj_QI (wr_d Y X cs ad) D vwCl (jt_tys cs) g0 s.heap.size Post) args s 0 0 (va_A (wr_d Y X cs ad g0) s.heap.size)) 2 [(0, .ref (ad 0)), (1, .int x1), (2, .int x2), (3, .int x3)] [] g := by
  intro f
  induction f with
  | zero => intro x3 g hV; exact hV.elim
  | succ f ih =>
    intro x3 g hV
    rw [vr_mayBe_2] at hV
    refine jj_iload_n (pc2 := 3) hC dX11_mayBe_2 rfl 3 rfl rfl ?_
    refine jj_bipush (pc2 := 5) hC 6 dX11_mayBe_3 (by decide) rfl ?_
    refine jj_icmp_ge (pc2 := 8) hC 21 dX11_mayBe_5 (by decide) rfl (fun h1 => ?_) (fun h1 => ?_)
    · have hV := hV.1 h1
      exact jj_sub (lv2 := [(0, .ref (ad 0)), (1, .int x1), (2, .int x2)]) [0, 1, 2] rfl (hK21 g hV)
    · have hV := hV.2 h1
      refine jj_aload_n (pc2 := 9) hC dX11_mayBe_8 rfl 0 rfl rfl ?_
      refine rg_37 (pc2 := 12) hC hi_X11_mayBe_X11 lk_X11_mayBe_1 dX11_mayBe_9 rfl ?_
      refine jj_iload_n (pc2 := 13) hC dX11_mayBe_12 rfl 3 rfl rfl ?_
      refine jj_iconst (pc2 := 14) hC 0 dX11_mayBe_13 (by decide) rfl ?_
      refine rs_37 (pc2 := 15) hC hV.1 dX11_mayBe_14 rfl (fun g2 eg2 => ?_)
      have hV := hV.2 g2 eg2
      refine jj_iinc (pc2 := 18) hC (x3 + 1) [(3, .int (x3 + 1)), (0, .ref (ad 0)), (1, .int x1), (2, .int x2)] dX11_mayBe_15 3 rfl rfl (by decide) rfl rfl ?_
      refine jj_goto hC 2 dX11_mayBe_18 (by decide) ?_
      exact jj_sub (lv2 := [(0, .ref (ad 0)), (1, .int x1), (2, .int x2), (3, .int (x3 + 1))]) [1, 2, 3, 0] rfl (ih (x3 + 1) g2 hV)
set_option maxHeartbeats 4000000 in
set_option maxRecDepth 100000 in
theorem ar_mayBe_23 {p : Program} {l : Launch} {e : Env} {s : State} {m : MethodId} {args : Array Value} {below : List Frame} {meth : Method} {c : Code} {D : va_G} {cs : Nat → ClassId} {Y X : va_W} {ad : Nat → Nat} {g0 : jm_M} (hC : JC p s m args meth c D vwCl (va_A (wr_d Y X cs ad g0) s.heap.size) 5 cX11_mayBe (some .boolean) wsX11_mayBe RX11 (jt_tys cs)) (x1 : Int32) (x2 : Int32) (Post : Int32 → jm_M → Prop) (K54 : jm_M → Prop) (hK54 : ∀ (g : jm_M) , K54 g → JJ (wr_d Y X cs ad) p l e rm_X11_mayBe s m args below meth c D vwCl (va_A (wr_d Y X cs ad g0) s.heap.size) 5 0 0 (MQ below (jj_QI (wr_d Y X cs ad) D vwCl (jt_tys cs) g0 s.heap.size Post) args s 0 0 (va_A (wr_d Y X cs ad g0) s.heap.size)) 54 [(0, .ref (ad 0)), (1, .int x1), (2, .int x2)] [] g) : ∀ (f : Nat) (x3 : Int32) (g : jm_M), vr_mayBe_23 x1 x2 K54 Post f x3 g → JJ (wr_d Y X cs ad) p l e rm_X11_mayBe s m args below meth c D vwCl (va_A (wr_d Y X cs ad g0) s.heap.size) 5 0 0 (MQ below (jj_QI (wr_d Y X cs ad) D vwCl (jt_tys cs) g0 s.heap.size Post) args s 0 0 (va_A (wr_d Y X cs ad g0) s.heap.size)) 23 [(0, .ref (ad 0)), (1, .int x1), (2, .int x2), (3, .int x3)] [] g := by
  intro f
  induction f with
  | zero => intro x3 g hV; exact hV.elim
  | succ f ih =>
    intro x3 g hV
    rw [vr_mayBe_23] at hV
    refine jj_iload_n (pc2 := 24) hC dX11_mayBe_23 rfl 3 rfl rfl ?_
    refine jj_iload_n (pc2 := 25) hC dX11_mayBe_24 rfl 1 rfl rfl ?_
    refine jj_icmp_gt (pc2 := 28) hC 54 dX11_mayBe_25 (by decide) rfl (fun h4 => ?_) (fun h4 => ?_)
    · have hV := hV.1 h4
      exact jj_sub (lv2 := [(0, .ref (ad 0)), (1, .int x1), (2, .int x2)]) [0, 1, 2] rfl (hK54 g hV)
    · have hV := hV.2 h4
      refine jj_aload_n (pc2 := 29) hC dX11_mayBe_28 rfl 0 rfl rfl ?_
      refine rg_37 (pc2 := 32) hC hi_X11_mayBe_X11 lk_X11_mayBe_1 dX11_mayBe_29 rfl ?_
      refine jj_aload_n (pc2 := 33) hC dX11_mayBe_32 rfl 0 rfl rfl ?_
      refine rg_36 (pc2 := 36) hC hi_X11_mayBe_X11 lk_X11_mayBe_2 dX11_mayBe_33 rfl ?_
      refine jj_iload_n (pc2 := 37) hC dX11_mayBe_36 rfl 3 rfl rfl ?_
      refine ra_36 (pc2 := 38) hC hV.1 dX11_mayBe_37 rfl ?_
      have hV := hV.2
      refine jj_dup2 (pc2 := 39) hC dX11_mayBe_38 rfl rfl rfl ?_
      refine ra_37 (pc2 := 40) hC hV.1 dX11_mayBe_39 rfl ?_
      have hV := hV.2
      refine jj_aload_n (pc2 := 41) hC dX11_mayBe_40 rfl 0 rfl rfl ?_
      refine rg_2 (pc2 := 44) hC hi_X11_mayBe_X11 lk_X11_mayBe_3 dX11_mayBe_41 rfl ?_
      refine jj_iload_n (pc2 := 45) hC dX11_mayBe_44 rfl 3 rfl rfl ?_
      refine ra_2 (pc2 := 46) hC hV.1 dX11_mayBe_45 rfl ?_
      have hV := hV.2
      refine jj_iadd (pc2 := 47) hC dX11_mayBe_46 rfl ?_
      refine rs_37 (pc2 := 48) hC hV.1 dX11_mayBe_47 rfl (fun g5 eg5 => ?_)
      have hV := hV.2 g5 eg5
      refine jj_iinc (pc2 := 51) hC (x3 + 1) [(3, .int (x3 + 1)), (0, .ref (ad 0)), (1, .int x1), (2, .int x2)] dX11_mayBe_48 3 rfl rfl (by decide) rfl rfl ?_
      refine jj_goto hC 23 dX11_mayBe_51 (by decide) ?_
      exact jj_sub (lv2 := [(0, .ref (ad 0)), (1, .int x1), (2, .int x2), (3, .int (x3 + 1))]) [1, 2, 3, 0] rfl (ih (x3 + 1) g5 hV)
set_option maxHeartbeats 4000000 in
set_option maxRecDepth 100000 in
theorem ar_mayBe_73 {p : Program} {l : Launch} {e : Env} {s : State} {m : MethodId} {args : Array Value} {below : List Frame} {meth : Method} {c : Code} {D : va_G} {cs : Nat → ClassId} {Y X : va_W} {ad : Nat → Nat} {g0 : jm_M} (hC : JC p s m args meth c D vwCl (va_A (wr_d Y X cs ad g0) s.heap.size) 5 cX11_mayBe (some .boolean) wsX11_mayBe RX11 (jt_tys cs)) (x1 : Int32) (g : jm_M) (Post : Int32 → jm_M → Prop) : ∀ (f : Nat) (x3 : Int32), vr_mayBe_73 x1 g Post f x3 → JJ (wr_d Y X cs ad) p l e rm_X11_mayBe s m args below meth c D vwCl (va_A (wr_d Y X cs ad g0) s.heap.size) 5 0 0 (MQ below (jj_QI (wr_d Y X cs ad) D vwCl (jt_tys cs) g0 s.heap.size Post) args s 0 0 (va_A (wr_d Y X cs ad g0) s.heap.size)) 73 [(0, .ref (ad 0)), (1, .int x1), (3, .int x3)] [] g := by
  intro f
  induction f with
  | zero => intro x3 hV; exact hV.elim
  | succ f ih =>
    intro x3 hV
    rw [vr_mayBe_73] at hV
    refine jj_iload_n (pc2 := 74) hC dX11_mayBe_73 rfl 2 rfl rfl ?_
    refine jj_iload_n (pc2 := 75) hC dX11_mayBe_74 rfl 1 rfl rfl ?_
    refine jj_icmp_ge (pc2 := 78) hC 141 dX11_mayBe_75 (by decide) rfl (fun h8 => ?_) (fun h8 => ?_)
    · have hV := hV.1 h8
      refine jj_iconst (pc2 := 142) hC 1 dX11_mayBe_141 (by decide) rfl ?_
      exact jj_zret hC jj_nb1 dX11_mayBe_142 hV
    · have hV := hV.2 h8
      refine jj_aload_n (pc2 := 79) hC dX11_mayBe_78 rfl 0 rfl rfl ?_
      refine rg_32 (pc2 := 82) hC hi_X11_mayBe_X11 lk_X11_mayBe_4 dX11_mayBe_79 rfl ?_
      refine jj_bipush (pc2 := 84) hC 10 dX11_mayBe_82 (by decide) rfl ?_
      refine jj_iload_n (pc2 := 85) hC dX11_mayBe_84 rfl 2 rfl rfl ?_
      refine jj_imul (pc2 := 86) hC dX11_mayBe_85 rfl ?_
      refine jj_iload_n (pc2 := 87) hC dX11_mayBe_86 rfl 1 rfl rfl ?_
      refine jj_iadd (pc2 := 88) hC dX11_mayBe_87 rfl ?_
      refine ra_32 (pc2 := 89) hC hV.1 dX11_mayBe_88 rfl ?_
      have hV := hV.2
      refine jj_topi (fun y9 ey9 => ?_)
      have hV := hV y9 ey9
      refine jj_istore (pc2 := 91) hC [(4, .int y9), (0, .ref (ad 0)), (1, .int x1), (3, .int x3)] dX11_mayBe_89 (by decide) rfl rfl ?_
      refine jj_iload (pc2 := 93) hC dX11_mayBe_91 0 rfl rfl ?_
      refine jj_iconst (pc2 := 94) hC 1 dX11_mayBe_93 (by decide) rfl ?_
      refine jj_icmp_ne (pc2 := 97) hC 112 dX11_mayBe_94 (by decide) rfl (fun h10 => ?_) (fun h10 => ?_)
      · have hV := hV.1 h10
        refine jj_iload (pc2 := 114) hC dX11_mayBe_112 0 rfl rfl ?_
        refine jj_iconst (pc2 := 115) hC 2 dX11_mayBe_114 (by decide) rfl ?_
        refine jj_icmp_ne (pc2 := 118) hC 135 dX11_mayBe_115 (by decide) rfl (fun h11 => ?_) (fun h11 => ?_)
        · have hV := hV.1 h11
          refine jj_iinc (pc2 := 138) hC (x3 + 1) [(3, .int (x3 + 1)), (4, .int y9), (0, .ref (ad 0)), (1, .int x1)] dX11_mayBe_135 3 rfl rfl (by decide) rfl rfl ?_
          refine jj_goto hC 73 dX11_mayBe_138 (by decide) ?_
          exact jj_sub (lv2 := [(0, .ref (ad 0)), (1, .int x1), (3, .int (x3 + 1))]) [2, 3, 0] rfl (ih (x3 + 1) hV)
        · have hV := hV.2 h11
          refine jj_aload_n (pc2 := 119) hC dX11_mayBe_118 rfl 1 rfl rfl ?_
          refine rg_36 (pc2 := 122) hC hi_X11_mayBe_X11 lk_X11_mayBe_2 dX11_mayBe_119 rfl ?_
          refine jj_iload_n (pc2 := 123) hC dX11_mayBe_122 rfl 3 rfl rfl ?_
          refine ra_36 (pc2 := 124) hC hV.1 dX11_mayBe_123 rfl ?_
          have hV := hV.2
          refine jj_aload_n (pc2 := 125) hC dX11_mayBe_124 rfl 1 rfl rfl ?_
          refine rg_36 (pc2 := 128) hC hi_X11_mayBe_X11 lk_X11_mayBe_2 dX11_mayBe_125 rfl ?_
          refine jj_iload_n (pc2 := 129) hC dX11_mayBe_128 rfl 2 rfl rfl ?_
          refine ra_36 (pc2 := 130) hC hV.1 dX11_mayBe_129 rfl ?_
          have hV := hV.2
          refine jj_icmp_ne (pc2 := 133) hC 135 dX11_mayBe_130 (by decide) rfl (fun h12 => ?_) (fun h12 => ?_)
          · have hV := hV.1 h12
            refine jj_iinc (pc2 := 138) hC (x3 + 1) [(3, .int (x3 + 1)), (4, .int y9), (0, .ref (ad 0)), (1, .int x1)] dX11_mayBe_135 3 rfl rfl (by decide) rfl rfl ?_
            refine jj_goto hC 73 dX11_mayBe_138 (by decide) ?_
            exact jj_sub (lv2 := [(0, .ref (ad 0)), (1, .int x1), (3, .int (x3 + 1))]) [2, 3, 0] rfl (ih (x3 + 1) hV)
          · have hV := hV.2 h12
            refine jj_iconst (pc2 := 134) hC 0 dX11_mayBe_133 (by decide) rfl ?_
            exact jj_zret hC jj_nb0 dX11_mayBe_134 hV
      · have hV := hV.2 h10
        refine jj_aload_n (pc2 := 98) hC dX11_mayBe_97 rfl 1 rfl rfl ?_
        refine rg_36 (pc2 := 101) hC hi_X11_mayBe_X11 lk_X11_mayBe_2 dX11_mayBe_98 rfl ?_
        refine jj_iload_n (pc2 := 102) hC dX11_mayBe_101 rfl 3 rfl rfl ?_
        refine ra_36 (pc2 := 103) hC hV.1 dX11_mayBe_102 rfl ?_
        have hV := hV.2
        refine jj_aload_n (pc2 := 104) hC dX11_mayBe_103 rfl 1 rfl rfl ?_
        refine rg_36 (pc2 := 107) hC hi_X11_mayBe_X11 lk_X11_mayBe_2 dX11_mayBe_104 rfl ?_
        refine jj_iload_n (pc2 := 108) hC dX11_mayBe_107 rfl 2 rfl rfl ?_
        refine ra_36 (pc2 := 109) hC hV.1 dX11_mayBe_108 rfl ?_
        have hV := hV.2
        refine jj_icmp_ne (pc2 := 112) hC 133 dX11_mayBe_109 (by decide) rfl (fun h13 => ?_) (fun h13 => ?_)
        · have hV := hV.1 h13
          refine jj_iconst (pc2 := 134) hC 0 dX11_mayBe_133 (by decide) rfl ?_
          exact jj_zret hC jj_nb0 dX11_mayBe_134 hV
        · have hV := hV.2 h13
          refine jj_iload (pc2 := 114) hC dX11_mayBe_112 0 rfl rfl ?_
          refine jj_iconst (pc2 := 115) hC 2 dX11_mayBe_114 (by decide) rfl ?_
          refine jj_icmp_ne (pc2 := 118) hC 135 dX11_mayBe_115 (by decide) rfl (fun h14 => ?_) (fun h14 => ?_)
          · have hV := hV.1 h14
            refine jj_iinc (pc2 := 138) hC (x3 + 1) [(3, .int (x3 + 1)), (4, .int y9), (0, .ref (ad 0)), (1, .int x1)] dX11_mayBe_135 3 rfl rfl (by decide) rfl rfl ?_
            refine jj_goto hC 73 dX11_mayBe_138 (by decide) ?_
            exact jj_sub (lv2 := [(0, .ref (ad 0)), (1, .int x1), (3, .int (x3 + 1))]) [2, 3, 0] rfl (ih (x3 + 1) hV)
          · have hV := hV.2 h14
            refine jj_aload_n (pc2 := 119) hC dX11_mayBe_118 rfl 1 rfl rfl ?_
            refine rg_36 (pc2 := 122) hC hi_X11_mayBe_X11 lk_X11_mayBe_2 dX11_mayBe_119 rfl ?_
            refine jj_iload_n (pc2 := 123) hC dX11_mayBe_122 rfl 3 rfl rfl ?_
            refine ra_36 (pc2 := 124) hC hV.1 dX11_mayBe_123 rfl ?_
            have hV := hV.2
            refine jj_aload_n (pc2 := 125) hC dX11_mayBe_124 rfl 1 rfl rfl ?_
            refine rg_36 (pc2 := 128) hC hi_X11_mayBe_X11 lk_X11_mayBe_2 dX11_mayBe_125 rfl ?_
            refine jj_iload_n (pc2 := 129) hC dX11_mayBe_128 rfl 2 rfl rfl ?_
            refine ra_36 (pc2 := 130) hC hV.1 dX11_mayBe_129 rfl ?_
            have hV := hV.2
            refine jj_icmp_ne (pc2 := 133) hC 135 dX11_mayBe_130 (by decide) rfl (fun h15 => ?_) (fun h15 => ?_)
            · have hV := hV.1 h15
              refine jj_iinc (pc2 := 138) hC (x3 + 1) [(3, .int (x3 + 1)), (4, .int y9), (0, .ref (ad 0)), (1, .int x1)] dX11_mayBe_135 3 rfl rfl (by decide) rfl rfl ?_
              refine jj_goto hC 73 dX11_mayBe_138 (by decide) ?_
              exact jj_sub (lv2 := [(0, .ref (ad 0)), (1, .int x1), (3, .int (x3 + 1))]) [2, 3, 0] rfl (ih (x3 + 1) hV)
            · have hV := hV.2 h15
              refine jj_iconst (pc2 := 134) hC 0 dX11_mayBe_133 (by decide) rfl ?_
              exact jj_zret hC jj_nb0 dX11_mayBe_134 hV
set_option maxHeartbeats 4000000 in
set_option maxRecDepth 100000 in
theorem cr_mayBe (l : Launch) (D : va_G) (cs : Nat → ClassId) (Y X : va_W) (ad : Nat → Nat) (a1 : Int32) (a2 : Int32) (g0 : jm_M) (Post : Int32 → jm_M → Prop) (hV : vr_mayBe a1 a2 g0 Post) : JI (wr_d Y X cs ad) D vwCl (jt_tys cs) l yX11_mayBe wsX11_mayBe rm_X11_mayBe 0 0 [.ref (ad 0), .int a1, .int a2] g0 Post := by
  refine jj_metI (cc := cX11_mayBe) (nL := 5) (ret := (some .boolean)) (by decide) rfl (Nat.le_of_ble_eq_true rfl) [(0, .ref (ad 0)), (1, .int a1), (2, .int a2)] rfl ?_
  intro p e s m args below meth c hC hnm
  rw [vr_mayBe] at hV
  refine jj_iconst (pc2 := 1) hC 0 dX11_mayBe_0 (by decide) rfl ?_
  refine jj_istore_n (pc2 := 2) hC [(3, .int 0), (0, .ref (ad 0)), (1, .int a1), (2, .int a2)] dX11_mayBe_1 rfl (by decide) rfl rfl ?_
  obtain ⟨n18, hV⟩ := hV
  refine jj_sub (lv2 := [(0, .ref (ad 0)), (1, .int a1), (2, .int a2), (3, .int 0)]) [1, 2, 3, 0] rfl (ar_mayBe_2 hC a1 a2 Post _ (fun g3 hV => ?_) n18 0 g0 hV)
  refine jj_iconst (pc2 := 22) hC 0 dX11_mayBe_21 (by decide) rfl ?_
  refine jj_istore_n (pc2 := 23) hC [(3, .int 0), (0, .ref (ad 0)), (1, .int a1), (2, .int a2)] dX11_mayBe_22 rfl (by decide) rfl rfl ?_
  obtain ⟨n17, hV⟩ := hV
  refine jj_sub (lv2 := [(0, .ref (ad 0)), (1, .int a1), (2, .int a2), (3, .int 0)]) [1, 2, 3, 0] rfl (ar_mayBe_23 hC a1 a2 Post _ (fun g6 hV => ?_) n17 0 g3 hV)
  refine jj_aload_n (pc2 := 55) hC dX11_mayBe_54 rfl 0 rfl rfl ?_
  refine rg_37 (pc2 := 58) hC hi_X11_mayBe_X11 lk_X11_mayBe_1 dX11_mayBe_55 rfl ?_
  refine jj_aload_n (pc2 := 59) hC dX11_mayBe_58 rfl 0 rfl rfl ?_
  refine rg_36 (pc2 := 62) hC hi_X11_mayBe_X11 lk_X11_mayBe_2 dX11_mayBe_59 rfl ?_
  refine jj_iload_n (pc2 := 63) hC dX11_mayBe_62 rfl 1 rfl rfl ?_
  refine ra_36 (pc2 := 64) hC hV.1 dX11_mayBe_63 rfl ?_
  have hV := hV.2
  refine ra_37 (pc2 := 65) hC hV.1 dX11_mayBe_64 rfl ?_
  have hV := hV.2
  refine jj_iload_n (pc2 := 66) hC dX11_mayBe_65 rfl 2 rfl rfl ?_
  refine jj_icmp_le (pc2 := 69) hC 71 dX11_mayBe_66 (by decide) rfl (fun h7 => ?_) (fun h7 => ?_)
  · have hV := hV.1 h7
    refine jj_iconst (pc2 := 72) hC 0 dX11_mayBe_71 (by decide) rfl ?_
    refine jj_istore_n (pc2 := 73) hC [(3, .int 0), (0, .ref (ad 0)), (1, .int a1), (2, .int a2)] dX11_mayBe_72 rfl (by decide) rfl rfl ?_
    obtain ⟨n16, hV⟩ := hV
    refine jj_sub (lv2 := [(0, .ref (ad 0)), (1, .int a1), (3, .int 0)]) [1, 2, 0] rfl (ar_mayBe_73 hC a1 g6 Post n16 0 hV)
  · have hV := hV.2 h7
    refine jj_iconst (pc2 := 70) hC 0 dX11_mayBe_69 (by decide) rfl ?_
    exact jj_zret hC jj_nb0 dX11_mayBe_70 hV
theorem lk_X11_cut_1 : Cond.constantLong RX11 217 (-1) ∈ wsX11_cut := List.mem_of_getElem? (i := 1) rfl
theorem hi_X11_cut_X11 : ∀ w ∈ u_ws RX11 TX11 63, w ∈ wsX11_cut := fun _ h => List.mem_cons_of_mem _ (List.mem_append_right _ h)
theorem lk_X11_cut_4 : Cond.fieldLink RX11 86 "PartedHouseModel" "trial" "[I" ∈ wsX11_cut := List.mem_of_getElem? (i := 4) rfl
theorem lk_X11_cut_2 : Cond.fieldLink RX11 148 "PartedHouseModel" "modules" "I" ∈ wsX11_cut := List.mem_of_getElem? (i := 2) rfl
theorem lk_X11_cut_5 : Cond.fieldLink RX11 83 "PartedHouseModel" "cutRoom" "[I" ∈ wsX11_cut := List.mem_of_getElem? (i := 5) rfl
theorem lk_X11_cut_8 : Cond.fieldLink RX11 230 "PartedHouseModel" "cutMany" "I" ∈ wsX11_cut := List.mem_of_getElem? (i := 8) rfl
theorem lk_X11_cut_7 : Cond.fieldLink RX11 227 "PartedHouseModel" "hasCut" "Z" ∈ wsX11_cut := List.mem_of_getElem? (i := 7) rfl
theorem lk_X11_cut_6 : Cond.constantLong RX11 225 (-2) ∈ wsX11_cut := List.mem_of_getElem? (i := 6) rfl
theorem lk_X11_cut_3 : Cond.constantLong RX11 219 (-4) ∈ wsX11_cut := List.mem_of_getElem? (i := 3) rfl
abbrev rm_X11_cut : Room := { frames := 1, cells := 0, slots := 0, locals := 28 }
def vr_cut_82 (x1 : Int32) (x2 : Int32) (x3 : Int64) (x5 : Int32) (K111 : jm_M → Prop) (Post : Int64 → jm_M → Prop) : Nat → Int32 → jm_M → Prop
  | 0, _, _ => False
  | f + 1, x6, g => (((g 1 0) ≤ x6) → (K111 g)) ∧ ((¬ (g 1 0) ≤ x6) → ((vp_in x6 10) ∧ ((vp_in x6 10) ∧ (∀ g23 : jm_M, g23 = jm_a g 35 x6 (g 36 x6.toNatClampNeg) → (vr_cut_82 x1 x2 x3 x5 K111 Post f (x6 + 1) g23)))))
def vr_cut_52 (x1 : Int32) (x2 : Int32) (K119 : Int64 → jm_M → Prop) (K209 : Int64 → jm_M → Prop) (Post : Int64 → jm_M → Prop) : Nat → Int64 → Int32 → jm_M → Prop
  | 0, _, _, _ => False
  | f + 1, x3, x5, g => ((x5 < 0) → (K209 x3 g)) ∧ ((¬ x5 < 0) → (((¬ x5 = (g 1 0)) → ((vp_in x5 10) ∧ ((vp_in x5 10) ∧ (∀ g9 : jm_M, g9 = jm_a g 36 x5 ((g 36 x5.toNatClampNeg) + 1) → ((vp_in x5 10) ∧ (((¬ (g9 36 x5.toNatClampNeg) = x1) → (vr_mayBe x5 x2 g9 (fun (r11 : Int32) (g12 : jm_M) => ((r11 = 0) → (vr_cut_52 x1 x2 K119 K209 Post f x3 x5 g12)) ∧ ((¬ r11 = 0) → ((((lg_cmp x3 (0 : Int64)) < 0) → ((((g12 1 0) ≤ (x5 + 1)) → (vr_cut_52 x1 x2 K119 K209 Post f x3 (x5 + 1) g12)) ∧ ((¬ (g12 1 0) ≤ (x5 + 1)) → ((vp_in (x5 + 1) 10) ∧ (∀ g16 : jm_M, g16 = jm_a g12 36 (x5 + 1) (-1) → (vr_cut_52 x1 x2 K119 K209 Post f x3 (x5 + 1) g16)))))) ∧ ((¬ (lg_cmp x3 (0 : Int64)) < 0) → (vr_priceOf 36 (x5 + 1) g12 (fun (r17 : Int64) => (((lg_cmp r17 x3) < 0) → ((((g12 1 0) ≤ (x5 + 1)) → (vr_cut_52 x1 x2 K119 K209 Post f x3 (x5 + 1) g12)) ∧ ((¬ (g12 1 0) ≤ (x5 + 1)) → ((vp_in (x5 + 1) 10) ∧ (∀ g20 : jm_M, g20 = jm_a g12 36 (x5 + 1) (-1) → (vr_cut_52 x1 x2 K119 K209 Post f x3 (x5 + 1) g20)))))) ∧ ((¬ (lg_cmp r17 x3) < 0) → (vr_cut_52 x1 x2 K119 K209 Post f x3 x5 g12)))))))))) ∧ (((g9 36 x5.toNatClampNeg) = x1) → (vr_cut_52 x1 x2 K119 K209 Post f x3 (x5 + (-1)) g9)))))))) ∧ ((x5 = (g 1 0)) → (vr_priceOf 36 (g 1 0) g (fun (r21 : Int64) => ∃ n38 : Nat, vr_cut_82 x1 x2 r21 x5 (fun (g24 : jm_M) => ((0 ≤ (x5 + (-1))) → ((vp_in (x5 + (-1)) 10) ∧ ((vp_in (x5 + (-1)) 10) ∧ (∀ g26 : jm_M, g26 = jm_a g24 36 (x5 + (-1)) ((g24 36 (x5 + (-1)).toNatClampNeg) + 1) → ((vp_in (x5 + (-1)) 10) ∧ (((¬ (g26 36 (x5 + (-1)).toNatClampNeg) = x1) → (vr_mayBe (x5 + (-1)) x2 g26 (fun (r28 : Int32) (g29 : jm_M) => ((r28 = 0) → (vr_cut_52 x1 x2 K119 K209 Post f r21 (x5 + (-1)) g29)) ∧ ((¬ r28 = 0) → ((((lg_cmp r21 (0 : Int64)) < 0) → ((((g29 1 0) ≤ ((x5 + (-1)) + 1)) → (vr_cut_52 x1 x2 K119 K209 Post f r21 ((x5 + (-1)) + 1) g29)) ∧ ((¬ (g29 1 0) ≤ ((x5 + (-1)) + 1)) → ((vp_in ((x5 + (-1)) + 1) 10) ∧ (∀ g33 : jm_M, g33 = jm_a g29 36 ((x5 + (-1)) + 1) (-1) → (vr_cut_52 x1 x2 K119 K209 Post f r21 ((x5 + (-1)) + 1) g33)))))) ∧ ((¬ (lg_cmp r21 (0 : Int64)) < 0) → (vr_priceOf 36 ((x5 + (-1)) + 1) g29 (fun (r34 : Int64) => (((lg_cmp r34 r21) < 0) → ((((g29 1 0) ≤ ((x5 + (-1)) + 1)) → (vr_cut_52 x1 x2 K119 K209 Post f r21 ((x5 + (-1)) + 1) g29)) ∧ ((¬ (g29 1 0) ≤ ((x5 + (-1)) + 1)) → ((vp_in ((x5 + (-1)) + 1) 10) ∧ (∀ g37 : jm_M, g37 = jm_a g29 36 ((x5 + (-1)) + 1) (-1) → (vr_cut_52 x1 x2 K119 K209 Post f r21 ((x5 + (-1)) + 1) g37)))))) ∧ ((¬ (lg_cmp r34 r21) < 0) → (vr_cut_52 x1 x2 K119 K209 Post f r21 (x5 + (-1)) g29)))))))))) ∧ (((g26 36 (x5 + (-1)).toNatClampNeg) = x1) → (vr_cut_52 x1 x2 K119 K209 Post f r21 ((x5 + (-1)) + (-1)) g26)))))))) ∧ ((¬ 0 ≤ (x5 + (-1))) → (K119 r21 g24))) Post n38 0 g)))))
def vr_cut (a1 : Int32) (a2 : Int32) (g0 : jm_M) (Post : Int64 → jm_M → Prop) : Prop := vr_in a1 1 6 g0 (fun (r1 : Int32) => ((r1 = 0) → (Post (-1) g0)) ∧ ((¬ r1 = 0) → (vr_in a2 1 9999 g0 (fun (r3 : Int32) => ((¬ r3 = 0) → ((((g0 1 0) ≤ 9) → (∀ g6 : jm_M, g6 = jm_a g0 36 0 (-1) → (∃ n49 : Nat, vr_cut_52 a1 a2 (fun (y39 : Int64) (g40 : jm_M) => ((0 ≤ (lg_cmp y39 (0 : Int64))) → (∀ g42 : jm_M, g42 = jm_s g40 33 1 → (∀ g43 : jm_M, g43 = jm_s g42 34 (g42 1 0) → (Post y39 g43)))) ∧ ((¬ 0 ≤ (lg_cmp y39 (0 : Int64))) → (Post (-2) g40))) (fun (y44 : Int64) (g45 : jm_M) => ((0 ≤ (lg_cmp y44 (0 : Int64))) → (∀ g47 : jm_M, g47 = jm_s g45 33 1 → (∀ g48 : jm_M, g48 = jm_s g47 34 (g47 1 0) → (Post y44 g48)))) ∧ ((¬ 0 ≤ (lg_cmp y44 (0 : Int64))) → (Post (-2) g45))) Post n49 (-1) 0 g6))) ∧ ((¬ (g0 1 0) ≤ 9) → (Post (-4) g0)))) ∧ ((r3 = 0) → (Post (-1) g0))))))
set_option maxHeartbeats 4000000 in
set_option maxRecDepth 100000 in
theorem ar_cut_82 {p : Program} {l : Launch} {e : Env} {s : State} {m : MethodId} {args : Array Value} {below : List Frame} {meth : Method} {c : Code} {D : va_G} {cs : Nat → ClassId} {Y X : va_W} {ad : Nat → Nat} {g0 : jm_M} (hC : JC p s m args meth c D vwCl (va_A (wr_d Y X cs ad g0) s.heap.size) 7 cX11_cut (some .long) wsX11_cut RX11 (jt_tys cs)) (x1 : Int32) (x2 : Int32) (x3 : Int64) (x5 : Int32) (Post : Int64 → jm_M → Prop) (K111 : jm_M → Prop) (hK111 : ∀ (g : jm_M) , K111 g → JJ (wr_d Y X cs ad) p l e rm_X11_cut s m args below meth c D vwCl (va_A (wr_d Y X cs ad g0) s.heap.size) 7 0 0 (MQ below (jj_QL (wr_d Y X cs ad) D vwCl (jt_tys cs) g0 s.heap.size Post) args s 0 0 (va_A (wr_d Y X cs ad g0) s.heap.size)) 111 [(0, .ref (ad 0)), (1, .int x1), (2, .int x2), (3, .long x3), (5, .int x5)] [] g) : ∀ (f : Nat) (x6 : Int32) (g : jm_M), vr_cut_82 x1 x2 x3 x5 K111 Post f x6 g → JJ (wr_d Y X cs ad) p l e rm_X11_cut s m args below meth c D vwCl (va_A (wr_d Y X cs ad g0) s.heap.size) 7 0 0 (MQ below (jj_QL (wr_d Y X cs ad) D vwCl (jt_tys cs) g0 s.heap.size Post) args s 0 0 (va_A (wr_d Y X cs ad g0) s.heap.size)) 82 [(0, .ref (ad 0)), (1, .int x1), (2, .int x2), (3, .long x3), (5, .int x5), (6, .int x6)] [] g := by
  intro f
  induction f with
  | zero => intro x6 g hV; exact hV.elim
  | succ f ih =>
    intro x6 g hV
    rw [vr_cut_82] at hV
    refine jj_iload (pc2 := 84) hC dX11_cut_82 5 rfl rfl ?_
    refine jj_aload_n (pc2 := 85) hC dX11_cut_84 rfl 0 rfl rfl ?_
    refine rg_1 (pc2 := 88) hC hi_X11_cut_X11 lk_X11_cut_2 dX11_cut_85 rfl ?_
    refine jj_icmp_ge (pc2 := 91) hC 111 dX11_cut_88 (by decide) rfl (fun h22 => ?_) (fun h22 => ?_)
    · have hV := hV.1 h22
      exact jj_sub (lv2 := [(0, .ref (ad 0)), (1, .int x1), (2, .int x2), (3, .long x3), (5, .int x5)]) [0, 1, 2, 3, 4] rfl (hK111 g hV)
    · have hV := hV.2 h22
      refine jj_aload_n (pc2 := 92) hC dX11_cut_91 rfl 0 rfl rfl ?_
      refine rg_35 (pc2 := 95) hC hi_X11_cut_X11 lk_X11_cut_5 dX11_cut_92 rfl ?_
      refine jj_iload (pc2 := 97) hC dX11_cut_95 5 rfl rfl ?_
      refine jj_aload_n (pc2 := 98) hC dX11_cut_97 rfl 0 rfl rfl ?_
      refine rg_36 (pc2 := 101) hC hi_X11_cut_X11 lk_X11_cut_4 dX11_cut_98 rfl ?_
      refine jj_iload (pc2 := 103) hC dX11_cut_101 5 rfl rfl ?_
      refine ra_36 (pc2 := 104) hC hV.1 dX11_cut_103 rfl ?_
      have hV := hV.2
      refine rs_35 (pc2 := 105) hC hV.1 dX11_cut_104 rfl (fun g23 eg23 => ?_)
      have hV := hV.2 g23 eg23
      refine jj_iinc (pc2 := 108) hC (x6 + 1) [(6, .int (x6 + 1)), (0, .ref (ad 0)), (1, .int x1), (2, .int x2), (3, .long x3), (5, .int x5)] dX11_cut_105 5 rfl rfl (by decide) rfl rfl ?_
      refine jj_goto hC 82 dX11_cut_108 (by decide) ?_
      exact jj_sub (lv2 := [(0, .ref (ad 0)), (1, .int x1), (2, .int x2), (3, .long x3), (5, .int x5), (6, .int (x6 + 1))]) [1, 2, 3, 4, 5, 0] rfl (ih (x6 + 1) g23 hV)
set_option maxHeartbeats 4000000 in
set_option maxRecDepth 100000 in
theorem ar_cut_52 {p : Program} {l : Launch} {e : Env} {s : State} {m : MethodId} {args : Array Value} {below : List Frame} {meth : Method} {c : Code} {D : va_G} {cs : Nat → ClassId} {Y X : va_W} {ad : Nat → Nat} {g0 : jm_M} (hC : JC p s m args meth c D vwCl (va_A (wr_d Y X cs ad g0) s.heap.size) 7 cX11_cut (some .long) wsX11_cut RX11 (jt_tys cs)) (x1 : Int32) (x2 : Int32) (Post : Int64 → jm_M → Prop) (K119 : Int64 → jm_M → Prop) (hK119 : ∀ (z3 : Int64) (g : jm_M) , K119 z3 g → JJ (wr_d Y X cs ad) p l e rm_X11_cut s m args below meth c D vwCl (va_A (wr_d Y X cs ad g0) s.heap.size) 7 0 0 (MQ below (jj_QL (wr_d Y X cs ad) D vwCl (jt_tys cs) g0 s.heap.size Post) args s 0 0 (va_A (wr_d Y X cs ad g0) s.heap.size)) 119 [(0, .ref (ad 0)), (3, .long z3)] [] g) (K209 : Int64 → jm_M → Prop) (hK209 : ∀ (z3 : Int64) (g : jm_M) , K209 z3 g → JJ (wr_d Y X cs ad) p l e rm_X11_cut s m args below meth c D vwCl (va_A (wr_d Y X cs ad g0) s.heap.size) 7 0 0 (MQ below (jj_QL (wr_d Y X cs ad) D vwCl (jt_tys cs) g0 s.heap.size Post) args s 0 0 (va_A (wr_d Y X cs ad g0) s.heap.size)) 209 [(0, .ref (ad 0)), (3, .long z3)] [] g) : ∀ (f : Nat) (x3 : Int64) (x5 : Int32) (g : jm_M), vr_cut_52 x1 x2 K119 K209 Post f x3 x5 g → JJ (wr_d Y X cs ad) p l e rm_X11_cut s m args below meth c D vwCl (va_A (wr_d Y X cs ad g0) s.heap.size) 7 0 0 (MQ below (jj_QL (wr_d Y X cs ad) D vwCl (jt_tys cs) g0 s.heap.size Post) args s 0 0 (va_A (wr_d Y X cs ad g0) s.heap.size)) 52 [(0, .ref (ad 0)), (1, .int x1), (2, .int x2), (3, .long x3), (5, .int x5)] [] g := by
  intro f
  induction f with
  | zero => intro x3 x5 g hV; exact hV.elim
  | succ f ih =>
    intro x3 x5 g hV
    rw [vr_cut_52] at hV
    refine jj_iload (pc2 := 54) hC dX11_cut_52 4 rfl rfl ?_
    refine jj_if_lt (pc2 := 57) hC 209 dX11_cut_54 (by decide) rfl (fun h7 => ?_) (fun h7 => ?_)
    · have hV := hV.1 h7
      exact jj_sub (lv2 := [(0, .ref (ad 0)), (3, .long x3)]) [0, 3] rfl (hK209 x3 g hV)
    · have hV := hV.2 h7
      refine jj_iload (pc2 := 59) hC dX11_cut_57 4 rfl rfl ?_
      refine jj_aload_n (pc2 := 60) hC dX11_cut_59 rfl 0 rfl rfl ?_
      refine rg_1 (pc2 := 63) hC hi_X11_cut_X11 lk_X11_cut_2 dX11_cut_60 rfl ?_
      refine jj_icmp_ne (pc2 := 66) hC 122 dX11_cut_63 (by decide) rfl (fun h8 => ?_) (fun h8 => ?_)
      · have hV := hV.1 h8
        refine jj_aload_n (pc2 := 123) hC dX11_cut_122 rfl 0 rfl rfl ?_
        refine rg_36 (pc2 := 126) hC hi_X11_cut_X11 lk_X11_cut_4 dX11_cut_123 rfl ?_
        refine jj_iload (pc2 := 128) hC dX11_cut_126 4 rfl rfl ?_
        refine jj_dup2 (pc2 := 129) hC dX11_cut_128 rfl rfl rfl ?_
        refine ra_36 (pc2 := 130) hC hV.1 dX11_cut_129 rfl ?_
        have hV := hV.2
        refine jj_iconst (pc2 := 131) hC 1 dX11_cut_130 (by decide) rfl ?_
        refine jj_iadd (pc2 := 132) hC dX11_cut_131 rfl ?_
        refine rs_36 (pc2 := 133) hC hV.1 dX11_cut_132 rfl (fun g9 eg9 => ?_)
        have hV := hV.2 g9 eg9
        refine jj_aload_n (pc2 := 134) hC dX11_cut_133 rfl 0 rfl rfl ?_
        refine rg_36 (pc2 := 137) hC hi_X11_cut_X11 lk_X11_cut_4 dX11_cut_134 rfl ?_
        refine jj_iload (pc2 := 139) hC dX11_cut_137 4 rfl rfl ?_
        refine ra_36 (pc2 := 140) hC hV.1 dX11_cut_139 rfl ?_
        have hV := hV.2
        refine jj_iload_n (pc2 := 141) hC dX11_cut_140 rfl 1 rfl rfl ?_
        refine jj_icmp_ne (pc2 := 144) hC 150 dX11_cut_141 (by decide) rfl (fun h10 => ?_) (fun h10 => ?_)
        · have hV := hV.1 h10
          refine jj_aload_n (pc2 := 151) hC dX11_cut_150 rfl 0 rfl rfl ?_
          refine jj_iload (pc2 := 153) hC dX11_cut_151 4 rfl rfl ?_
          refine jj_iload_n (pc2 := 154) hC dX11_cut_153 rfl 2 rfl rfl ?_
          refine jj_cVI (pc2 := 157) (wd := wr_d Y X cs ad) (g := g9) (rest := []) hC (Y.length + 0) (jx_at (V := wr_W cs ad g9) rfl) rfl rfl (cr_mayBe l D cs Y X ad x5 x2 g9 _ hV) (cwV 2 hC.1.2.2.2.2 gX11_cut_X11_mayBe rfl rfl rfl (by decide +kernel) ⟨by decide, by decide⟩) rfl (Nat.le_of_ble_eq_true rfl) _ rfl dX11_cut_154 ⟨Nat.zero_le _, Nat.zero_le _⟩ rfl (fun r11 g12 hV => ?_)
          refine jj_if_eq (pc2 := 160) hC 52 dX11_cut_157 (by decide) rfl (fun h13 => ?_) (fun h13 => ?_)
          · have hV := hV.1 h13
            exact (ih x3 x5 g12 hV)
          · have hV := hV.2 h13
            refine jj_lload_n (pc2 := 161) hC dX11_cut_160 rfl 3 rfl rfl ?_
            refine jj_lconst (pc2 := 162) hC 0 dX11_cut_161 (by decide) rfl ?_
            refine jj_lcmp (pc2 := 163) hC dX11_cut_162 rfl ?_
            refine jj_if_lt (pc2 := 166) hC 186 dX11_cut_163 (by decide) rfl (fun h14 => ?_) (fun h14 => ?_)
            · have hV := hV.1 h14
              refine jj_iinc (pc2 := 189) hC (x5 + 1) [(5, .int (x5 + 1)), (0, .ref (ad 0)), (1, .int x1), (2, .int x2), (3, .long x3)] dX11_cut_186 4 rfl rfl (by decide) rfl rfl ?_
              refine jj_iload (pc2 := 191) hC dX11_cut_189 0 rfl rfl ?_
              refine jj_aload_n (pc2 := 192) hC dX11_cut_191 rfl 1 rfl rfl ?_
              refine rg_1 (pc2 := 195) hC hi_X11_cut_X11 lk_X11_cut_2 dX11_cut_192 rfl ?_
              refine jj_icmp_ge (pc2 := 198) hC 52 dX11_cut_195 (by decide) rfl (fun h15 => ?_) (fun h15 => ?_)
              · have hV := hV.1 h15
                exact jj_sub (lv2 := [(0, .ref (ad 0)), (1, .int x1), (2, .int x2), (3, .long x3), (5, .int (x5 + 1))]) [1, 2, 3, 4, 0] rfl (ih x3 (x5 + 1) g12 hV)
              · have hV := hV.2 h15
                refine jj_aload_n (pc2 := 199) hC dX11_cut_198 rfl 1 rfl rfl ?_
                refine rg_36 (pc2 := 202) hC hi_X11_cut_X11 lk_X11_cut_4 dX11_cut_199 rfl ?_
                refine jj_iload (pc2 := 204) hC dX11_cut_202 0 rfl rfl ?_
                refine jj_iconst (pc2 := 205) hC (-1) dX11_cut_204 (by decide) rfl ?_
                refine rs_36 (pc2 := 206) hC hV.1 dX11_cut_205 rfl (fun g16 eg16 => ?_)
                have hV := hV.2 g16 eg16
                refine jj_goto hC 52 dX11_cut_206 (by decide) ?_
                exact jj_sub (lv2 := [(0, .ref (ad 0)), (1, .int x1), (2, .int x2), (3, .long x3), (5, .int (x5 + 1))]) [1, 2, 3, 4, 0] rfl (ih x3 (x5 + 1) g16 hV)
            · have hV := hV.2 h14
              refine jj_aload_n (pc2 := 167) hC dX11_cut_166 rfl 0 rfl rfl ?_
              refine jj_aload_n (pc2 := 168) hC dX11_cut_167 rfl 0 rfl rfl ?_
              refine rg_36 (pc2 := 171) hC hi_X11_cut_X11 lk_X11_cut_4 dX11_cut_168 rfl ?_
              refine jj_iload (pc2 := 173) hC dX11_cut_171 4 rfl rfl ?_
              refine jj_iconst (pc2 := 174) hC 1 dX11_cut_173 (by decide) rfl ?_
              refine jj_iadd (pc2 := 175) hC dX11_cut_174 rfl ?_
              refine jj_cVLp (pc2 := 178) (wd := wr_d Y X cs ad) (g := g12) (rest := []) hC (Y.length + 0) (jx_at (V := wr_W cs ad g12) rfl) rfl rfl (cr_priceOf_36 l D cs Y X ad (x5 + 1) g12 _ hV) (cwV 2 hC.1.2.2.2.2 gX11_cut_X11_priceOf rfl rfl rfl (by decide +kernel) ⟨by decide, by decide⟩) rfl (Nat.le_of_ble_eq_true rfl) _ rfl dX11_cut_175 ⟨Nat.zero_le _, Nat.zero_le _⟩ rfl (fun r17 hV => ?_)
              refine jj_lload_n (pc2 := 179) hC dX11_cut_178 rfl 3 rfl rfl ?_
              refine jj_lcmp (pc2 := 180) hC dX11_cut_179 rfl ?_
              refine jj_if_lt (pc2 := 183) hC 186 dX11_cut_180 (by decide) rfl (fun h18 => ?_) (fun h18 => ?_)
              · have hV := hV.1 h18
                refine jj_iinc (pc2 := 189) hC (x5 + 1) [(5, .int (x5 + 1)), (0, .ref (ad 0)), (1, .int x1), (2, .int x2), (3, .long x3)] dX11_cut_186 4 rfl rfl (by decide) rfl rfl ?_
                refine jj_iload (pc2 := 191) hC dX11_cut_189 0 rfl rfl ?_
                refine jj_aload_n (pc2 := 192) hC dX11_cut_191 rfl 1 rfl rfl ?_
                refine rg_1 (pc2 := 195) hC hi_X11_cut_X11 lk_X11_cut_2 dX11_cut_192 rfl ?_
                refine jj_icmp_ge (pc2 := 198) hC 52 dX11_cut_195 (by decide) rfl (fun h19 => ?_) (fun h19 => ?_)
                · have hV := hV.1 h19
                  exact jj_sub (lv2 := [(0, .ref (ad 0)), (1, .int x1), (2, .int x2), (3, .long x3), (5, .int (x5 + 1))]) [1, 2, 3, 4, 0] rfl (ih x3 (x5 + 1) g12 hV)
                · have hV := hV.2 h19
                  refine jj_aload_n (pc2 := 199) hC dX11_cut_198 rfl 1 rfl rfl ?_
                  refine rg_36 (pc2 := 202) hC hi_X11_cut_X11 lk_X11_cut_4 dX11_cut_199 rfl ?_
                  refine jj_iload (pc2 := 204) hC dX11_cut_202 0 rfl rfl ?_
                  refine jj_iconst (pc2 := 205) hC (-1) dX11_cut_204 (by decide) rfl ?_
                  refine rs_36 (pc2 := 206) hC hV.1 dX11_cut_205 rfl (fun g20 eg20 => ?_)
                  have hV := hV.2 g20 eg20
                  refine jj_goto hC 52 dX11_cut_206 (by decide) ?_
                  exact jj_sub (lv2 := [(0, .ref (ad 0)), (1, .int x1), (2, .int x2), (3, .long x3), (5, .int (x5 + 1))]) [1, 2, 3, 4, 0] rfl (ih x3 (x5 + 1) g20 hV)
              · have hV := hV.2 h18
                refine jj_goto hC 52 dX11_cut_183 (by decide) ?_
                exact (ih x3 x5 g12 hV)
        · have hV := hV.2 h10
          refine jj_iinc (pc2 := 147) hC (x5 + (-1)) [(5, .int (x5 + (-1))), (0, .ref (ad 0)), (1, .int x1), (2, .int x2), (3, .long x3)] dX11_cut_144 4 rfl rfl (by decide) rfl rfl ?_
          refine jj_goto hC 52 dX11_cut_147 (by decide) ?_
          exact jj_sub (lv2 := [(0, .ref (ad 0)), (1, .int x1), (2, .int x2), (3, .long x3), (5, .int (x5 + (-1)))]) [1, 2, 3, 4, 0] rfl (ih x3 (x5 + (-1)) g9 hV)
      · have hV := hV.2 h8
        refine jj_aload_n (pc2 := 67) hC dX11_cut_66 rfl 0 rfl rfl ?_
        refine jj_aload_n (pc2 := 68) hC dX11_cut_67 rfl 0 rfl rfl ?_
        refine rg_36 (pc2 := 71) hC hi_X11_cut_X11 lk_X11_cut_4 dX11_cut_68 rfl ?_
        refine jj_aload_n (pc2 := 72) hC dX11_cut_71 rfl 0 rfl rfl ?_
        refine rg_1 (pc2 := 75) hC hi_X11_cut_X11 lk_X11_cut_2 dX11_cut_72 rfl ?_
        refine jj_cVLp (pc2 := 78) (wd := wr_d Y X cs ad) (g := g) (rest := []) hC (Y.length + 0) (jx_at (V := wr_W cs ad g) rfl) rfl rfl (cr_priceOf_36 l D cs Y X ad (g 1 0) g _ hV) (cwV 2 hC.1.2.2.2.2 gX11_cut_X11_priceOf rfl rfl rfl (by decide +kernel) ⟨by decide, by decide⟩) rfl (Nat.le_of_ble_eq_true rfl) _ rfl dX11_cut_75 ⟨Nat.zero_le _, Nat.zero_le _⟩ rfl (fun r21 hV => ?_)
        refine jj_lstore_n (pc2 := 79) hC [(3, .long r21), (0, .ref (ad 0)), (1, .int x1), (2, .int x2), (5, .int x5)] dX11_cut_78 rfl (by decide) rfl rfl ?_
        refine jj_iconst (pc2 := 80) hC 0 dX11_cut_79 (by decide) rfl ?_
        refine jj_istore (pc2 := 82) hC [(6, .int 0), (3, .long r21), (0, .ref (ad 0)), (1, .int x1), (2, .int x2), (5, .int x5)] dX11_cut_80 (by decide) rfl rfl ?_
        obtain ⟨n38, hV⟩ := hV
        refine jj_sub (lv2 := [(0, .ref (ad 0)), (1, .int x1), (2, .int x2), (3, .long r21), (5, .int x5), (6, .int 0)]) [2, 3, 4, 1, 5, 0] rfl (ar_cut_82 hC x1 x2 r21 x5 Post _ (fun g24 hV => ?_) n38 0 g hV)
        refine jj_iinc (pc2 := 114) hC (x5 + (-1)) [(5, .int (x5 + (-1))), (0, .ref (ad 0)), (1, .int x1), (2, .int x2), (3, .long r21)] dX11_cut_111 4 rfl rfl (by decide) rfl rfl ?_
        refine jj_iload (pc2 := 116) hC dX11_cut_114 0 rfl rfl ?_
        refine jj_if_ge (pc2 := 119) hC 122 dX11_cut_116 (by decide) rfl (fun h25 => ?_) (fun h25 => ?_)
        · have hV := hV.1 h25
          refine jj_aload_n (pc2 := 123) hC dX11_cut_122 rfl 1 rfl rfl ?_
          refine rg_36 (pc2 := 126) hC hi_X11_cut_X11 lk_X11_cut_4 dX11_cut_123 rfl ?_
          refine jj_iload (pc2 := 128) hC dX11_cut_126 0 rfl rfl ?_
          refine jj_dup2 (pc2 := 129) hC dX11_cut_128 rfl rfl rfl ?_
          refine ra_36 (pc2 := 130) hC hV.1 dX11_cut_129 rfl ?_
          have hV := hV.2
          refine jj_iconst (pc2 := 131) hC 1 dX11_cut_130 (by decide) rfl ?_
          refine jj_iadd (pc2 := 132) hC dX11_cut_131 rfl ?_
          refine rs_36 (pc2 := 133) hC hV.1 dX11_cut_132 rfl (fun g26 eg26 => ?_)
          have hV := hV.2 g26 eg26
          refine jj_aload_n (pc2 := 134) hC dX11_cut_133 rfl 1 rfl rfl ?_
          refine rg_36 (pc2 := 137) hC hi_X11_cut_X11 lk_X11_cut_4 dX11_cut_134 rfl ?_
          refine jj_iload (pc2 := 139) hC dX11_cut_137 0 rfl rfl ?_
          refine ra_36 (pc2 := 140) hC hV.1 dX11_cut_139 rfl ?_
          have hV := hV.2
          refine jj_iload_n (pc2 := 141) hC dX11_cut_140 rfl 2 rfl rfl ?_
          refine jj_icmp_ne (pc2 := 144) hC 150 dX11_cut_141 (by decide) rfl (fun h27 => ?_) (fun h27 => ?_)
          · have hV := hV.1 h27
            refine jj_aload_n (pc2 := 151) hC dX11_cut_150 rfl 1 rfl rfl ?_
            refine jj_iload (pc2 := 153) hC dX11_cut_151 0 rfl rfl ?_
            refine jj_iload_n (pc2 := 154) hC dX11_cut_153 rfl 3 rfl rfl ?_
            refine jj_cVI (pc2 := 157) (wd := wr_d Y X cs ad) (g := g26) (rest := []) hC (Y.length + 0) (jx_at (V := wr_W cs ad g26) rfl) rfl rfl (cr_mayBe l D cs Y X ad (x5 + (-1)) x2 g26 _ hV) (cwV 2 hC.1.2.2.2.2 gX11_cut_X11_mayBe rfl rfl rfl (by decide +kernel) ⟨by decide, by decide⟩) rfl (Nat.le_of_ble_eq_true rfl) _ rfl dX11_cut_154 ⟨Nat.zero_le _, Nat.zero_le _⟩ rfl (fun r28 g29 hV => ?_)
            refine jj_if_eq (pc2 := 160) hC 52 dX11_cut_157 (by decide) rfl (fun h30 => ?_) (fun h30 => ?_)
            · have hV := hV.1 h30
              exact jj_sub (lv2 := [(0, .ref (ad 0)), (1, .int x1), (2, .int x2), (3, .long r21), (5, .int (x5 + (-1)))]) [1, 2, 3, 4, 0] rfl (ih r21 (x5 + (-1)) g29 hV)
            · have hV := hV.2 h30
              refine jj_lload_n (pc2 := 161) hC dX11_cut_160 rfl 4 rfl rfl ?_
              refine jj_lconst (pc2 := 162) hC 0 dX11_cut_161 (by decide) rfl ?_
              refine jj_lcmp (pc2 := 163) hC dX11_cut_162 rfl ?_
              refine jj_if_lt (pc2 := 166) hC 186 dX11_cut_163 (by decide) rfl (fun h31 => ?_) (fun h31 => ?_)
              · have hV := hV.1 h31
                refine jj_iinc (pc2 := 189) hC ((x5 + (-1)) + 1) [(5, .int ((x5 + (-1)) + 1)), (0, .ref (ad 0)), (1, .int x1), (2, .int x2), (3, .long r21)] dX11_cut_186 0 rfl rfl (by decide) rfl rfl ?_
                refine jj_iload (pc2 := 191) hC dX11_cut_189 0 rfl rfl ?_
                refine jj_aload_n (pc2 := 192) hC dX11_cut_191 rfl 1 rfl rfl ?_
                refine rg_1 (pc2 := 195) hC hi_X11_cut_X11 lk_X11_cut_2 dX11_cut_192 rfl ?_
                refine jj_icmp_ge (pc2 := 198) hC 52 dX11_cut_195 (by decide) rfl (fun h32 => ?_) (fun h32 => ?_)
                · have hV := hV.1 h32
                  exact jj_sub (lv2 := [(0, .ref (ad 0)), (1, .int x1), (2, .int x2), (3, .long r21), (5, .int ((x5 + (-1)) + 1))]) [1, 2, 3, 4, 0] rfl (ih r21 ((x5 + (-1)) + 1) g29 hV)
                · have hV := hV.2 h32
                  refine jj_aload_n (pc2 := 199) hC dX11_cut_198 rfl 1 rfl rfl ?_
                  refine rg_36 (pc2 := 202) hC hi_X11_cut_X11 lk_X11_cut_4 dX11_cut_199 rfl ?_
                  refine jj_iload (pc2 := 204) hC dX11_cut_202 0 rfl rfl ?_
                  refine jj_iconst (pc2 := 205) hC (-1) dX11_cut_204 (by decide) rfl ?_
                  refine rs_36 (pc2 := 206) hC hV.1 dX11_cut_205 rfl (fun g33 eg33 => ?_)
                  have hV := hV.2 g33 eg33
                  refine jj_goto hC 52 dX11_cut_206 (by decide) ?_
                  exact jj_sub (lv2 := [(0, .ref (ad 0)), (1, .int x1), (2, .int x2), (3, .long r21), (5, .int ((x5 + (-1)) + 1))]) [1, 2, 3, 4, 0] rfl (ih r21 ((x5 + (-1)) + 1) g33 hV)
              · have hV := hV.2 h31
                refine jj_aload_n (pc2 := 167) hC dX11_cut_166 rfl 1 rfl rfl ?_
                refine jj_aload_n (pc2 := 168) hC dX11_cut_167 rfl 1 rfl rfl ?_
                refine rg_36 (pc2 := 171) hC hi_X11_cut_X11 lk_X11_cut_4 dX11_cut_168 rfl ?_
                refine jj_iload (pc2 := 173) hC dX11_cut_171 0 rfl rfl ?_
                refine jj_iconst (pc2 := 174) hC 1 dX11_cut_173 (by decide) rfl ?_
                refine jj_iadd (pc2 := 175) hC dX11_cut_174 rfl ?_
                refine jj_cVLp (pc2 := 178) (wd := wr_d Y X cs ad) (g := g29) (rest := []) hC (Y.length + 0) (jx_at (V := wr_W cs ad g29) rfl) rfl rfl (cr_priceOf_36 l D cs Y X ad ((x5 + (-1)) + 1) g29 _ hV) (cwV 2 hC.1.2.2.2.2 gX11_cut_X11_priceOf rfl rfl rfl (by decide +kernel) ⟨by decide, by decide⟩) rfl (Nat.le_of_ble_eq_true rfl) _ rfl dX11_cut_175 ⟨Nat.zero_le _, Nat.zero_le _⟩ rfl (fun r34 hV => ?_)
                refine jj_lload_n (pc2 := 179) hC dX11_cut_178 rfl 4 rfl rfl ?_
                refine jj_lcmp (pc2 := 180) hC dX11_cut_179 rfl ?_
                refine jj_if_lt (pc2 := 183) hC 186 dX11_cut_180 (by decide) rfl (fun h35 => ?_) (fun h35 => ?_)
                · have hV := hV.1 h35
                  refine jj_iinc (pc2 := 189) hC ((x5 + (-1)) + 1) [(5, .int ((x5 + (-1)) + 1)), (0, .ref (ad 0)), (1, .int x1), (2, .int x2), (3, .long r21)] dX11_cut_186 0 rfl rfl (by decide) rfl rfl ?_
                  refine jj_iload (pc2 := 191) hC dX11_cut_189 0 rfl rfl ?_
                  refine jj_aload_n (pc2 := 192) hC dX11_cut_191 rfl 1 rfl rfl ?_
                  refine rg_1 (pc2 := 195) hC hi_X11_cut_X11 lk_X11_cut_2 dX11_cut_192 rfl ?_
                  refine jj_icmp_ge (pc2 := 198) hC 52 dX11_cut_195 (by decide) rfl (fun h36 => ?_) (fun h36 => ?_)
                  · have hV := hV.1 h36
                    exact jj_sub (lv2 := [(0, .ref (ad 0)), (1, .int x1), (2, .int x2), (3, .long r21), (5, .int ((x5 + (-1)) + 1))]) [1, 2, 3, 4, 0] rfl (ih r21 ((x5 + (-1)) + 1) g29 hV)
                  · have hV := hV.2 h36
                    refine jj_aload_n (pc2 := 199) hC dX11_cut_198 rfl 1 rfl rfl ?_
                    refine rg_36 (pc2 := 202) hC hi_X11_cut_X11 lk_X11_cut_4 dX11_cut_199 rfl ?_
                    refine jj_iload (pc2 := 204) hC dX11_cut_202 0 rfl rfl ?_
                    refine jj_iconst (pc2 := 205) hC (-1) dX11_cut_204 (by decide) rfl ?_
                    refine rs_36 (pc2 := 206) hC hV.1 dX11_cut_205 rfl (fun g37 eg37 => ?_)
                    have hV := hV.2 g37 eg37
                    refine jj_goto hC 52 dX11_cut_206 (by decide) ?_
                    exact jj_sub (lv2 := [(0, .ref (ad 0)), (1, .int x1), (2, .int x2), (3, .long r21), (5, .int ((x5 + (-1)) + 1))]) [1, 2, 3, 4, 0] rfl (ih r21 ((x5 + (-1)) + 1) g37 hV)
                · have hV := hV.2 h35
                  refine jj_goto hC 52 dX11_cut_183 (by decide) ?_
                  exact jj_sub (lv2 := [(0, .ref (ad 0)), (1, .int x1), (2, .int x2), (3, .long r21), (5, .int (x5 + (-1)))]) [1, 2, 3, 4, 0] rfl (ih r21 (x5 + (-1)) g29 hV)
          · have hV := hV.2 h27
            refine jj_iinc (pc2 := 147) hC ((x5 + (-1)) + (-1)) [(5, .int ((x5 + (-1)) + (-1))), (0, .ref (ad 0)), (1, .int x1), (2, .int x2), (3, .long r21)] dX11_cut_144 0 rfl rfl (by decide) rfl rfl ?_
            refine jj_goto hC 52 dX11_cut_147 (by decide) ?_
            exact jj_sub (lv2 := [(0, .ref (ad 0)), (1, .int x1), (2, .int x2), (3, .long r21), (5, .int ((x5 + (-1)) + (-1)))]) [1, 2, 3, 4, 0] rfl (ih r21 ((x5 + (-1)) + (-1)) g26 hV)
        · have hV := hV.2 h25
          exact jj_sub (lv2 := [(0, .ref (ad 0)), (3, .long r21)]) [1, 4] rfl (hK119 r21 g24 hV)
set_option maxHeartbeats 4000000 in
set_option maxRecDepth 100000 in
theorem cr_cut (l : Launch) (D : va_G) (cs : Nat → ClassId) (Y X : va_W) (ad : Nat → Nat) (a1 : Int32) (a2 : Int32) (g0 : jm_M) (Post : Int64 → jm_M → Prop) (hV : vr_cut a1 a2 g0 Post) : JL (wr_d Y X cs ad) D vwCl (jt_tys cs) l yX11_cut wsX11_cut rm_X11_cut 0 0 [.ref (ad 0), .int a1, .int a2] g0 Post := by
  refine jj_metL (cc := cX11_cut) (nL := 7) (ret := (some .long)) (by decide) rfl (Nat.le_of_ble_eq_true rfl) [(0, .ref (ad 0)), (1, .int a1), (2, .int a2)] rfl ?_
  intro p e s m args below meth c hC hnm
  rw [vr_cut] at hV
  refine jj_iload_n (pc2 := 1) hC dX11_cut_0 rfl 1 rfl rfl ?_
  refine jj_iconst (pc2 := 2) hC 1 dX11_cut_1 (by decide) rfl ?_
  refine jj_bipush (pc2 := 4) hC 6 dX11_cut_2 (by decide) rfl ?_
  refine jj_cSIp (pc2 := 7) (wd := wr_d Y X cs ad) (g := g0) (rest := []) hC (cr_in l D cs Y X ad a1 1 6 g0 _ hV) (va_cwS 3 hC.1.2.2.2.2 gX11_cut_X11_in rfl rfl rfl (by decide +kernel) ⟨by decide, by decide⟩) rfl (Nat.le_of_ble_eq_true rfl) _ rfl dX11_cut_4 ⟨Nat.zero_le _, Nat.zero_le _⟩ rfl (fun r1 hV => ?_)
  refine jj_if_eq (pc2 := 10) hC 21 dX11_cut_7 (by decide) rfl (fun h2 => ?_) (fun h2 => ?_)
  · have hV := hV.1 h2
    refine jj_ldc2 (pc2 := 24) hC lk_X11_cut_1 dX11_cut_21 rfl ?_
    exact jj_lret hC dX11_cut_24 hV
  · have hV := hV.2 h2
    refine jj_iload_n (pc2 := 11) hC dX11_cut_10 rfl 2 rfl rfl ?_
    refine jj_iconst (pc2 := 12) hC 1 dX11_cut_11 (by decide) rfl ?_
    refine jj_sipush (pc2 := 15) hC 9999 dX11_cut_12 (by decide) rfl ?_
    refine jj_cSIp (pc2 := 18) (wd := wr_d Y X cs ad) (g := g0) (rest := []) hC (cr_in l D cs Y X ad a2 1 9999 g0 _ hV) (va_cwS 3 hC.1.2.2.2.2 gX11_cut_X11_in rfl rfl rfl (by decide +kernel) ⟨by decide, by decide⟩) rfl (Nat.le_of_ble_eq_true rfl) _ rfl dX11_cut_15 ⟨Nat.zero_le _, Nat.zero_le _⟩ rfl (fun r3 hV => ?_)
    refine jj_if_ne (pc2 := 21) hC 25 dX11_cut_18 (by decide) rfl (fun h4 => ?_) (fun h4 => ?_)
    · have hV := hV.1 h4
      refine jj_aload_n (pc2 := 26) hC dX11_cut_25 rfl 0 rfl rfl ?_
      refine rg_1 (pc2 := 29) hC hi_X11_cut_X11 lk_X11_cut_2 dX11_cut_26 rfl ?_
      refine jj_bipush (pc2 := 31) hC 9 dX11_cut_29 (by decide) rfl ?_
      refine jj_icmp_le (pc2 := 34) hC 38 dX11_cut_31 (by decide) rfl (fun h5 => ?_) (fun h5 => ?_)
      · have hV := hV.1 h5
        refine jj_ldc2 (pc2 := 41) hC lk_X11_cut_1 dX11_cut_38 rfl ?_
        refine jj_lstore_n (pc2 := 42) hC [(3, .long (-1)), (0, .ref (ad 0)), (1, .int a1), (2, .int a2)] dX11_cut_41 rfl (by decide) rfl rfl ?_
        refine jj_iconst (pc2 := 43) hC 0 dX11_cut_42 (by decide) rfl ?_
        refine jj_istore (pc2 := 45) hC [(5, .int 0), (3, .long (-1)), (0, .ref (ad 0)), (1, .int a1), (2, .int a2)] dX11_cut_43 (by decide) rfl rfl ?_
        refine jj_aload_n (pc2 := 46) hC dX11_cut_45 rfl 2 rfl rfl ?_
        refine rg_36 (pc2 := 49) hC hi_X11_cut_X11 lk_X11_cut_4 dX11_cut_46 rfl ?_
        refine jj_iconst (pc2 := 50) hC 0 dX11_cut_49 (by decide) rfl ?_
        refine jj_iconst (pc2 := 51) hC (-1) dX11_cut_50 (by decide) rfl ?_
        refine rs_36 (pc2 := 52) hC (jx_lit (by decide) (by decide)) dX11_cut_51 rfl (fun g6 eg6 => ?_)
        have hV := hV g6 eg6
        obtain ⟨n49, hV⟩ := hV
        refine jj_sub (lv2 := [(0, .ref (ad 0)), (1, .int a1), (2, .int a2), (3, .long (-1)), (5, .int 0)]) [2, 3, 4, 1, 0] rfl (ar_cut_52 hC a1 a2 Post _ (fun y39 g40 hV => ?_) _ (fun y44 g45 hV => ?_) n49 (-1) 0 g6 hV)
        · refine jj_goto hC 209 dX11_cut_119 (by decide) ?_
          refine jj_lload_n (pc2 := 210) hC dX11_cut_209 rfl 1 rfl rfl ?_
          refine jj_lconst (pc2 := 211) hC 0 dX11_cut_210 (by decide) rfl ?_
          refine jj_lcmp (pc2 := 212) hC dX11_cut_211 rfl ?_
          refine jj_if_ge (pc2 := 215) hC 219 dX11_cut_212 (by decide) rfl (fun h41 => ?_) (fun h41 => ?_)
          · have hV := hV.1 h41
            refine jj_aload_n (pc2 := 220) hC dX11_cut_219 rfl 0 rfl rfl ?_
            refine jj_iconst (pc2 := 221) hC 1 dX11_cut_220 (by decide) rfl ?_
            refine rp_33 (pc2 := 224) hC hi_X11_cut_X11 lk_X11_cut_7 jj_nb1 dX11_cut_221 rfl (fun g42 eg42 => ?_)
            have hV := hV g42 eg42
            refine jj_aload_n (pc2 := 225) hC dX11_cut_224 rfl 0 rfl rfl ?_
            refine jj_aload_n (pc2 := 226) hC dX11_cut_225 rfl 0 rfl rfl ?_
            refine rg_1 (pc2 := 229) hC hi_X11_cut_X11 lk_X11_cut_2 dX11_cut_226 rfl ?_
            refine rp_34 (pc2 := 232) hC hi_X11_cut_X11 lk_X11_cut_8 dX11_cut_229 rfl (fun g43 eg43 => ?_)
            have hV := hV g43 eg43
            refine jj_lload_n (pc2 := 233) hC dX11_cut_232 rfl 1 rfl rfl ?_
            exact jj_lret hC dX11_cut_233 hV
          · have hV := hV.2 h41
            refine jj_ldc2 (pc2 := 218) hC lk_X11_cut_6 dX11_cut_215 rfl ?_
            exact jj_lret hC dX11_cut_218 hV
        · refine jj_lload_n (pc2 := 210) hC dX11_cut_209 rfl 1 rfl rfl ?_
          refine jj_lconst (pc2 := 211) hC 0 dX11_cut_210 (by decide) rfl ?_
          refine jj_lcmp (pc2 := 212) hC dX11_cut_211 rfl ?_
          refine jj_if_ge (pc2 := 215) hC 219 dX11_cut_212 (by decide) rfl (fun h46 => ?_) (fun h46 => ?_)
          · have hV := hV.1 h46
            refine jj_aload_n (pc2 := 220) hC dX11_cut_219 rfl 0 rfl rfl ?_
            refine jj_iconst (pc2 := 221) hC 1 dX11_cut_220 (by decide) rfl ?_
            refine rp_33 (pc2 := 224) hC hi_X11_cut_X11 lk_X11_cut_7 jj_nb1 dX11_cut_221 rfl (fun g47 eg47 => ?_)
            have hV := hV g47 eg47
            refine jj_aload_n (pc2 := 225) hC dX11_cut_224 rfl 0 rfl rfl ?_
            refine jj_aload_n (pc2 := 226) hC dX11_cut_225 rfl 0 rfl rfl ?_
            refine rg_1 (pc2 := 229) hC hi_X11_cut_X11 lk_X11_cut_2 dX11_cut_226 rfl ?_
            refine rp_34 (pc2 := 232) hC hi_X11_cut_X11 lk_X11_cut_8 dX11_cut_229 rfl (fun g48 eg48 => ?_)
            have hV := hV g48 eg48
            refine jj_lload_n (pc2 := 233) hC dX11_cut_232 rfl 1 rfl rfl ?_
            exact jj_lret hC dX11_cut_233 hV
          · have hV := hV.2 h46
            refine jj_ldc2 (pc2 := 218) hC lk_X11_cut_6 dX11_cut_215 rfl ?_
            exact jj_lret hC dX11_cut_218 hV
      · have hV := hV.2 h5
        refine jj_ldc2 (pc2 := 37) hC lk_X11_cut_3 dX11_cut_34 rfl ?_
        exact jj_lret hC dX11_cut_37 hV
    · have hV := hV.2 h4
      refine jj_ldc2 (pc2 := 24) hC lk_X11_cut_1 dX11_cut_21 rfl ?_
      exact jj_lret hC dX11_cut_24 hV
