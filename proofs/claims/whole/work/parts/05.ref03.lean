theorem hi_X11_put_X11 : ∀ w ∈ u_ws RX11 TX11 63, w ∈ wsX11_put := fun _ h => List.mem_cons_of_mem _ (List.mem_append_right _ h)
theorem lk_X11_put_3 : Cond.fieldLink RX11 83 "PartedHouseModel" "cutRoom" "[I" ∈ wsX11_put := List.mem_of_getElem? (i := 3) rfl
theorem lk_X11_put_2 : Cond.fieldLink RX11 230 "PartedHouseModel" "cutMany" "I" ∈ wsX11_put := List.mem_of_getElem? (i := 2) rfl
theorem lk_X11_put_1 : Cond.fieldLink RX11 227 "PartedHouseModel" "hasCut" "Z" ∈ wsX11_put := List.mem_of_getElem? (i := 1) rfl
abbrev rm_X11_put : Room := { frames := 1, cells := 0, slots := 0, locals := 22 }
def vr_put (a1 : Int32) (g0 : jm_M) (Post : Int32 → Prop) : Prop := (((g0 33 0) = 0) → (Post (-1))) ∧ ((¬ (g0 33 0) = 0) → (vr_in a1 0 ((g0 34 0) - 1) g0 (fun (r2 : Int32) => ((r2 = 0) → (Post (-1))) ∧ ((¬ r2 = 0) → ((vp_in a1 10) ∧ (Post (g0 35 a1.toNatClampNeg)))))))
set_option maxHeartbeats 4000000 in
set_option maxRecDepth 100000 in
theorem cr_put (l : Launch) (D : va_G) (cs : Nat → ClassId) (Y X : va_W) (ad : Nat → Nat) (a1 : Int32) (g0 : jm_M) (Post : Int32 → Prop) (hV : vr_put a1 g0 Post) : JI (wr_d Y X cs ad) D vwCl (jt_tys cs) l yX11_put wsX11_put rm_X11_put 0 0 [.ref (ad 0), .int a1] g0 (fun r g2 => Post r ∧ g2 = g0) := by
  refine jj_metI (cc := cX11_put) (nL := 2) (ret := (some .int)) (by decide) rfl (Nat.le_of_ble_eq_true rfl) [(0, .ref (ad 0)), (1, .int a1)] rfl ?_
  intro p e s m args below meth c hC hnm
  rw [vr_put] at hV
  refine jj_aload_n (pc2 := 1) hC dX11_put_0 rfl 0 rfl rfl ?_
  refine rg_33 (pc2 := 4) hC hi_X11_put_X11 lk_X11_put_1 dX11_put_1 rfl ?_
  refine jj_if_eq (pc2 := 7) hC 30 dX11_put_4 (by decide) rfl (fun h1 => ?_) (fun h1 => ?_)
  · have hV := hV.1 h1
    refine jj_iconst (pc2 := 31) hC (-1) dX11_put_30 (by decide) rfl ?_
    exact jj_iret hC dX11_put_31 ⟨hV, rfl⟩
  · have hV := hV.2 h1
    refine jj_iload_n (pc2 := 8) hC dX11_put_7 rfl 1 rfl rfl ?_
    refine jj_iconst (pc2 := 9) hC 0 dX11_put_8 (by decide) rfl ?_
    refine jj_aload_n (pc2 := 10) hC dX11_put_9 rfl 0 rfl rfl ?_
    refine rg_34 (pc2 := 13) hC hi_X11_put_X11 lk_X11_put_2 dX11_put_10 rfl ?_
    refine jj_iconst (pc2 := 14) hC 1 dX11_put_13 (by decide) rfl ?_
    refine jj_isub (pc2 := 15) hC dX11_put_14 rfl ?_
    refine jj_cSIp (pc2 := 18) (wd := wr_d Y X cs ad) (g := g0) (rest := []) hC (cr_in l D cs Y X ad a1 0 ((g0 34 0) - 1) g0 _ hV) (va_cwS 3 hC.1.2.2.2.2 gX11_put_X11_in rfl rfl rfl (by decide +kernel) ⟨by decide, by decide⟩) rfl (Nat.le_of_ble_eq_true rfl) _ rfl dX11_put_15 ⟨Nat.zero_le _, Nat.zero_le _⟩ rfl (fun r2 hV => ?_)
    refine jj_if_eq (pc2 := 21) hC 30 dX11_put_18 (by decide) rfl (fun h3 => ?_) (fun h3 => ?_)
    · have hV := hV.1 h3
      refine jj_iconst (pc2 := 31) hC (-1) dX11_put_30 (by decide) rfl ?_
      exact jj_iret hC dX11_put_31 ⟨hV, rfl⟩
    · have hV := hV.2 h3
      refine jj_aload_n (pc2 := 22) hC dX11_put_21 rfl 0 rfl rfl ?_
      refine rg_35 (pc2 := 25) hC hi_X11_put_X11 lk_X11_put_3 dX11_put_22 rfl ?_
      refine jj_iload_n (pc2 := 26) hC dX11_put_25 rfl 1 rfl rfl ?_
      refine ra_35 (pc2 := 27) hC hV.1 dX11_put_26 rfl ?_
      have hV := hV.2
      refine jj_goto hC 31 dX11_put_27 (by decide) ?_
      exact jj_iret hC dX11_put_31 ⟨hV, rfl⟩
theorem hi_X11_findLeads_X11 : ∀ w ∈ u_ws RX11 TX11 63, w ∈ wsX11_findLeads := fun _ h => List.mem_cons_of_mem _ (List.mem_append_right _ h)
theorem lk_X11_findLeads_1 : Cond.fieldLink RX11 92 "PartedHouseModel" "leads" "[Z" ∈ wsX11_findLeads := List.mem_of_getElem? (i := 1) rfl
theorem lk_X11_findLeads_3 : Cond.fieldLink RX11 74 "PartedHouseModel" "room" "[I" ∈ wsX11_findLeads := List.mem_of_getElem? (i := 3) rfl
theorem lk_X11_findLeads_2 : Cond.fieldLink RX11 148 "PartedHouseModel" "modules" "I" ∈ wsX11_findLeads := List.mem_of_getElem? (i := 2) rfl
abbrev rm_X11_findLeads : Room := { frames := 1, cells := 0, slots := 0, locals := 26 }
def vr_findLeads_2 (K21 : jm_M → Prop) (Post : jm_M → Prop) : Nat → Int32 → jm_M → Prop
  | 0, _, _ => False
  | f + 1, x1, g => ((36 ≤ x1) → (K21 g)) ∧ ((¬ 36 ≤ x1) → ((vp_in x1 36) ∧ (∀ g2 : jm_M, g2 = jm_a g 38 x1 0 → (vr_findLeads_2 K21 Post f (x1 + 1) g2))))
def vr_findLeads_33 (x1 : Int32) (K94 : jm_M → Prop) (Post : jm_M → Prop) : Nat → Int32 → jm_M → Prop
  | 0, _, _ => False
  | f + 1, x2, g => (((g 1 0) ≤ x2) → (K94 g)) ∧ ((¬ (g 1 0) ≤ x2) → ((vp_in x1 10) ∧ ((vp_in x2 10) ∧ ((((g 30 x1.toNatClampNeg) = (g 30 x2.toNatClampNeg)) → (vr_findLeads_33 x1 K94 Post f (x2 + 1) g)) ∧ ((¬ (g 30 x1.toNatClampNeg) = (g 30 x2.toNatClampNeg)) → (vr_isTied 0 x1 x2 g (fun (r7 : Int32) => ((r7 = 0) → (vr_findLeads_33 x1 K94 Post f (x2 + 1) g)) ∧ ((¬ r7 = 0) → ((vp_in x1 10) ∧ ((vp_in x2 10) ∧ ((vp_in (((6 : Int32) * (g 30 x1.toNatClampNeg)) + (g 30 x2.toNatClampNeg)) 36) ∧ (∀ g9 : jm_M, g9 = jm_a g 38 (((6 : Int32) * (g 30 x1.toNatClampNeg)) + (g 30 x2.toNatClampNeg)) 1 → (vr_findLeads_33 x1 K94 Post f (x2 + 1) g9)))))))))))))
def vr_findLeads_23 (Post : jm_M → Prop) : Nat → Int32 → jm_M → Prop
  | 0, _, _ => False
  | f + 1, x1, g => (((g 1 0) ≤ x1) → (Post g)) ∧ ((¬ (g 1 0) ≤ x1) → (∃ n11 : Nat, vr_findLeads_33 x1 (fun (g10 : jm_M) => vr_findLeads_23 Post f (x1 + 1) g10) Post n11 0 g))
def vr_findLeads (g0 : jm_M) (Post : jm_M → Prop) : Prop := ∃ n13 : Nat, vr_findLeads_2 (fun (g3 : jm_M) => ∃ n12 : Nat, vr_findLeads_23 Post n12 0 g3) Post n13 0 g0
set_option maxHeartbeats 4000000 in
set_option maxRecDepth 100000 in
theorem ar_findLeads_2 {p : Program} {l : Launch} {e : Env} {s : State} {m : MethodId} {args : Array Value} {below : List Frame} {meth : Method} {c : Code} {D : va_G} {cs : Nat → ClassId} {Y X : va_W} {ad : Nat → Nat} {g0 : jm_M} (hC : JC p s m args meth c D vwCl (va_A (wr_d Y X cs ad g0) s.heap.size) 3 cX11_findLeads none wsX11_findLeads RX11 (jt_tys cs)) (Post : jm_M → Prop) (K21 : jm_M → Prop) (hK21 : ∀ (g : jm_M) , K21 g → JJ (wr_d Y X cs ad) p l e rm_X11_findLeads s m args below meth c D vwCl (va_A (wr_d Y X cs ad g0) s.heap.size) 3 0 0 (MQ below (jj_QV (wr_d Y X cs ad) D vwCl (jt_tys cs) g0 s.heap.size Post) args s 0 0 (va_A (wr_d Y X cs ad g0) s.heap.size)) 21 [(0, .ref (ad 0))] [] g) : ∀ (f : Nat) (x1 : Int32) (g : jm_M), vr_findLeads_2 K21 Post f x1 g → JJ (wr_d Y X cs ad) p l e rm_X11_findLeads s m args below meth c D vwCl (va_A (wr_d Y X cs ad g0) s.heap.size) 3 0 0 (MQ below (jj_QV (wr_d Y X cs ad) D vwCl (jt_tys cs) g0 s.heap.size Post) args s 0 0 (va_A (wr_d Y X cs ad g0) s.heap.size)) 2 [(0, .ref (ad 0)), (1, .int x1)] [] g := by
  intro f
  induction f with
  | zero => intro x1 g hV; exact hV.elim
  | succ f ih =>
    intro x1 g hV
    rw [vr_findLeads_2] at hV
    refine jj_iload_n (pc2 := 3) hC dX11_findLeads_2 rfl 1 rfl rfl ?_
    refine jj_bipush (pc2 := 5) hC 36 dX11_findLeads_3 (by decide) rfl ?_
    refine jj_icmp_ge (pc2 := 8) hC 21 dX11_findLeads_5 (by decide) rfl (fun h1 => ?_) (fun h1 => ?_)
    · have hV := hV.1 h1
      exact jj_sub (lv2 := [(0, .ref (ad 0))]) [0] rfl (hK21 g hV)
    · have hV := hV.2 h1
      refine jj_aload_n (pc2 := 9) hC dX11_findLeads_8 rfl 0 rfl rfl ?_
      refine rg_38 (pc2 := 12) hC hi_X11_findLeads_X11 lk_X11_findLeads_1 dX11_findLeads_9 rfl ?_
      refine jj_iload_n (pc2 := 13) hC dX11_findLeads_12 rfl 1 rfl rfl ?_
      refine jj_iconst (pc2 := 14) hC 0 dX11_findLeads_13 (by decide) rfl ?_
      refine rs_38 (pc2 := 15) hC hV.1 jj_nb0 dX11_findLeads_14 rfl (fun g2 eg2 => ?_)
      have hV := hV.2 g2 eg2
      refine jj_iinc (pc2 := 18) hC (x1 + 1) [(1, .int (x1 + 1)), (0, .ref (ad 0))] dX11_findLeads_15 1 rfl rfl (by decide) rfl rfl ?_
      refine jj_goto hC 2 dX11_findLeads_18 (by decide) ?_
      exact jj_sub (lv2 := [(0, .ref (ad 0)), (1, .int (x1 + 1))]) [1, 0] rfl (ih (x1 + 1) g2 hV)
set_option maxHeartbeats 4000000 in
set_option maxRecDepth 100000 in
theorem ar_findLeads_33 {p : Program} {l : Launch} {e : Env} {s : State} {m : MethodId} {args : Array Value} {below : List Frame} {meth : Method} {c : Code} {D : va_G} {cs : Nat → ClassId} {Y X : va_W} {ad : Nat → Nat} {g0 : jm_M} (hC : JC p s m args meth c D vwCl (va_A (wr_d Y X cs ad g0) s.heap.size) 3 cX11_findLeads none wsX11_findLeads RX11 (jt_tys cs)) (x1 : Int32) (Post : jm_M → Prop) (K94 : jm_M → Prop) (hK94 : ∀ (g : jm_M) , K94 g → JJ (wr_d Y X cs ad) p l e rm_X11_findLeads s m args below meth c D vwCl (va_A (wr_d Y X cs ad g0) s.heap.size) 3 0 0 (MQ below (jj_QV (wr_d Y X cs ad) D vwCl (jt_tys cs) g0 s.heap.size Post) args s 0 0 (va_A (wr_d Y X cs ad g0) s.heap.size)) 94 [(0, .ref (ad 0)), (1, .int x1)] [] g) : ∀ (f : Nat) (x2 : Int32) (g : jm_M), vr_findLeads_33 x1 K94 Post f x2 g → JJ (wr_d Y X cs ad) p l e rm_X11_findLeads s m args below meth c D vwCl (va_A (wr_d Y X cs ad g0) s.heap.size) 3 0 0 (MQ below (jj_QV (wr_d Y X cs ad) D vwCl (jt_tys cs) g0 s.heap.size Post) args s 0 0 (va_A (wr_d Y X cs ad g0) s.heap.size)) 33 [(0, .ref (ad 0)), (1, .int x1), (2, .int x2)] [] g := by
  intro f
  induction f with
  | zero => intro x2 g hV; exact hV.elim
  | succ f ih =>
    intro x2 g hV
    rw [vr_findLeads_33] at hV
    refine jj_iload_n (pc2 := 34) hC dX11_findLeads_33 rfl 2 rfl rfl ?_
    refine jj_aload_n (pc2 := 35) hC dX11_findLeads_34 rfl 0 rfl rfl ?_
    refine rg_1 (pc2 := 38) hC hi_X11_findLeads_X11 lk_X11_findLeads_2 dX11_findLeads_35 rfl ?_
    refine jj_icmp_ge (pc2 := 41) hC 94 dX11_findLeads_38 (by decide) rfl (fun h5 => ?_) (fun h5 => ?_)
    · have hV := hV.1 h5
      exact jj_sub (lv2 := [(0, .ref (ad 0)), (1, .int x1)]) [0, 1] rfl (hK94 g hV)
    · have hV := hV.2 h5
      refine jj_aload_n (pc2 := 42) hC dX11_findLeads_41 rfl 0 rfl rfl ?_
      refine rg_30 (pc2 := 45) hC hi_X11_findLeads_X11 lk_X11_findLeads_3 dX11_findLeads_42 rfl ?_
      refine jj_iload_n (pc2 := 46) hC dX11_findLeads_45 rfl 1 rfl rfl ?_
      refine ra_30 (pc2 := 47) hC hV.1 dX11_findLeads_46 rfl ?_
      have hV := hV.2
      refine jj_aload_n (pc2 := 48) hC dX11_findLeads_47 rfl 0 rfl rfl ?_
      refine rg_30 (pc2 := 51) hC hi_X11_findLeads_X11 lk_X11_findLeads_3 dX11_findLeads_48 rfl ?_
      refine jj_iload_n (pc2 := 52) hC dX11_findLeads_51 rfl 2 rfl rfl ?_
      refine ra_30 (pc2 := 53) hC hV.1 dX11_findLeads_52 rfl ?_
      have hV := hV.2
      refine jj_icmp_eq (pc2 := 56) hC 88 dX11_findLeads_53 (by decide) rfl (fun h6 => ?_) (fun h6 => ?_)
      · have hV := hV.1 h6
        refine jj_iinc (pc2 := 91) hC (x2 + 1) [(2, .int (x2 + 1)), (0, .ref (ad 0)), (1, .int x1)] dX11_findLeads_88 2 rfl rfl (by decide) rfl rfl ?_
        refine jj_goto hC 33 dX11_findLeads_91 (by decide) ?_
        exact jj_sub (lv2 := [(0, .ref (ad 0)), (1, .int x1), (2, .int (x2 + 1))]) [1, 2, 0] rfl (ih (x2 + 1) g hV)
      · have hV := hV.2 h6
        refine jj_aload_n (pc2 := 57) hC dX11_findLeads_56 rfl 0 rfl rfl ?_
        refine jj_iconst (pc2 := 58) hC 0 dX11_findLeads_57 (by decide) rfl ?_
        refine jj_iload_n (pc2 := 59) hC dX11_findLeads_58 rfl 1 rfl rfl ?_
        refine jj_iload_n (pc2 := 60) hC dX11_findLeads_59 rfl 2 rfl rfl ?_
        refine jj_cVIp (pc2 := 63) (wd := wr_d Y X cs ad) (g := g) (rest := []) hC (Y.length + 0) (jx_at (V := wr_W cs ad g) rfl) rfl rfl (cr_isTied l D cs Y X ad 0 x1 x2 g _ hV) (cwV 3 hC.1.2.2.2.2 gX11_findLeads_X11_isTied rfl rfl rfl (by decide +kernel) ⟨by decide, by decide⟩) rfl (Nat.le_of_ble_eq_true rfl) _ rfl dX11_findLeads_60 ⟨Nat.zero_le _, Nat.zero_le _⟩ rfl (fun r7 hV => ?_)
        refine jj_if_eq (pc2 := 66) hC 88 dX11_findLeads_63 (by decide) rfl (fun h8 => ?_) (fun h8 => ?_)
        · have hV := hV.1 h8
          refine jj_iinc (pc2 := 91) hC (x2 + 1) [(2, .int (x2 + 1)), (0, .ref (ad 0)), (1, .int x1)] dX11_findLeads_88 2 rfl rfl (by decide) rfl rfl ?_
          refine jj_goto hC 33 dX11_findLeads_91 (by decide) ?_
          exact jj_sub (lv2 := [(0, .ref (ad 0)), (1, .int x1), (2, .int (x2 + 1))]) [1, 2, 0] rfl (ih (x2 + 1) g hV)
        · have hV := hV.2 h8
          refine jj_aload_n (pc2 := 67) hC dX11_findLeads_66 rfl 0 rfl rfl ?_
          refine rg_38 (pc2 := 70) hC hi_X11_findLeads_X11 lk_X11_findLeads_1 dX11_findLeads_67 rfl ?_
          refine jj_bipush (pc2 := 72) hC 6 dX11_findLeads_70 (by decide) rfl ?_
          refine jj_aload_n (pc2 := 73) hC dX11_findLeads_72 rfl 0 rfl rfl ?_
          refine rg_30 (pc2 := 76) hC hi_X11_findLeads_X11 lk_X11_findLeads_3 dX11_findLeads_73 rfl ?_
          refine jj_iload_n (pc2 := 77) hC dX11_findLeads_76 rfl 1 rfl rfl ?_
          refine ra_30 (pc2 := 78) hC hV.1 dX11_findLeads_77 rfl ?_
          have hV := hV.2
          refine jj_imul (pc2 := 79) hC dX11_findLeads_78 rfl ?_
          refine jj_aload_n (pc2 := 80) hC dX11_findLeads_79 rfl 0 rfl rfl ?_
          refine rg_30 (pc2 := 83) hC hi_X11_findLeads_X11 lk_X11_findLeads_3 dX11_findLeads_80 rfl ?_
          refine jj_iload_n (pc2 := 84) hC dX11_findLeads_83 rfl 2 rfl rfl ?_
          refine ra_30 (pc2 := 85) hC hV.1 dX11_findLeads_84 rfl ?_
          have hV := hV.2
          refine jj_iadd (pc2 := 86) hC dX11_findLeads_85 rfl ?_
          refine jj_iconst (pc2 := 87) hC 1 dX11_findLeads_86 (by decide) rfl ?_
          refine rs_38 (pc2 := 88) hC hV.1 jj_nb1 dX11_findLeads_87 rfl (fun g9 eg9 => ?_)
          have hV := hV.2 g9 eg9
          refine jj_iinc (pc2 := 91) hC (x2 + 1) [(2, .int (x2 + 1)), (0, .ref (ad 0)), (1, .int x1)] dX11_findLeads_88 2 rfl rfl (by decide) rfl rfl ?_
          refine jj_goto hC 33 dX11_findLeads_91 (by decide) ?_
          exact jj_sub (lv2 := [(0, .ref (ad 0)), (1, .int x1), (2, .int (x2 + 1))]) [1, 2, 0] rfl (ih (x2 + 1) g9 hV)
set_option maxHeartbeats 4000000 in
set_option maxRecDepth 100000 in
theorem ar_findLeads_23 {p : Program} {l : Launch} {e : Env} {s : State} {m : MethodId} {args : Array Value} {below : List Frame} {meth : Method} {c : Code} {D : va_G} {cs : Nat → ClassId} {Y X : va_W} {ad : Nat → Nat} {g0 : jm_M} (hC : JC p s m args meth c D vwCl (va_A (wr_d Y X cs ad g0) s.heap.size) 3 cX11_findLeads none wsX11_findLeads RX11 (jt_tys cs)) (Post : jm_M → Prop) : ∀ (f : Nat) (x1 : Int32) (g : jm_M), vr_findLeads_23 Post f x1 g → JJ (wr_d Y X cs ad) p l e rm_X11_findLeads s m args below meth c D vwCl (va_A (wr_d Y X cs ad g0) s.heap.size) 3 0 0 (MQ below (jj_QV (wr_d Y X cs ad) D vwCl (jt_tys cs) g0 s.heap.size Post) args s 0 0 (va_A (wr_d Y X cs ad g0) s.heap.size)) 23 [(0, .ref (ad 0)), (1, .int x1)] [] g := by
  intro f
  induction f with
  | zero => intro x1 g hV; exact hV.elim
  | succ f ih =>
    intro x1 g hV
    rw [vr_findLeads_23] at hV
    refine jj_iload_n (pc2 := 24) hC dX11_findLeads_23 rfl 1 rfl rfl ?_
    refine jj_aload_n (pc2 := 25) hC dX11_findLeads_24 rfl 0 rfl rfl ?_
    refine rg_1 (pc2 := 28) hC hi_X11_findLeads_X11 lk_X11_findLeads_2 dX11_findLeads_25 rfl ?_
    refine jj_icmp_ge (pc2 := 31) hC 100 dX11_findLeads_28 (by decide) rfl (fun h4 => ?_) (fun h4 => ?_)
    · have hV := hV.1 h4
      exact jj_vret hC dX11_findLeads_100 hV
    · have hV := hV.2 h4
      refine jj_iconst (pc2 := 32) hC 0 dX11_findLeads_31 (by decide) rfl ?_
      refine jj_istore_n (pc2 := 33) hC [(2, .int 0), (0, .ref (ad 0)), (1, .int x1)] dX11_findLeads_32 rfl (by decide) rfl rfl ?_
      obtain ⟨n11, hV⟩ := hV
      refine jj_sub (lv2 := [(0, .ref (ad 0)), (1, .int x1), (2, .int 0)]) [1, 2, 0] rfl (ar_findLeads_33 hC x1 Post _ (fun g10 hV => ?_) n11 0 g hV)
      refine jj_iinc (pc2 := 97) hC (x1 + 1) [(1, .int (x1 + 1)), (0, .ref (ad 0))] dX11_findLeads_94 1 rfl rfl (by decide) rfl rfl ?_
      refine jj_goto hC 23 dX11_findLeads_97 (by decide) ?_
      exact jj_sub (lv2 := [(0, .ref (ad 0)), (1, .int (x1 + 1))]) [1, 0] rfl (ih (x1 + 1) g10 hV)
set_option maxHeartbeats 4000000 in
set_option maxRecDepth 100000 in
theorem cr_findLeads (l : Launch) (D : va_G) (cs : Nat → ClassId) (Y X : va_W) (ad : Nat → Nat) (g0 : jm_M) (Post : jm_M → Prop) (hV : vr_findLeads g0 Post) : JV (wr_d Y X cs ad) D vwCl (jt_tys cs) l yX11_findLeads wsX11_findLeads rm_X11_findLeads 0 0 [.ref (ad 0)] g0 Post := by
  refine jj_metV (cc := cX11_findLeads) (nL := 3) (ret := none) (by decide) rfl (Nat.le_of_ble_eq_true rfl) [(0, .ref (ad 0))] rfl ?_
  intro p e s m args below meth c hC hnm
  rw [vr_findLeads] at hV
  refine jj_iconst (pc2 := 1) hC 0 dX11_findLeads_0 (by decide) rfl ?_
  refine jj_istore_n (pc2 := 2) hC [(1, .int 0), (0, .ref (ad 0))] dX11_findLeads_1 rfl (by decide) rfl rfl ?_
  obtain ⟨n13, hV⟩ := hV
  refine jj_sub (lv2 := [(0, .ref (ad 0)), (1, .int 0)]) [1, 0] rfl (ar_findLeads_2 hC Post _ (fun g3 hV => ?_) n13 0 g0 hV)
  refine jj_iconst (pc2 := 22) hC 0 dX11_findLeads_21 (by decide) rfl ?_
  refine jj_istore_n (pc2 := 23) hC [(1, .int 0), (0, .ref (ad 0))] dX11_findLeads_22 rfl (by decide) rfl rfl ?_
  obtain ⟨n12, hV⟩ := hV
  refine jj_sub (lv2 := [(0, .ref (ad 0)), (1, .int 0)]) [1, 0] rfl (ar_findLeads_23 hC Post n12 0 g3 hV)
theorem hi_X11_isNext_X11 : ∀ w ∈ u_ws RX11 TX11 63, w ∈ wsX11_isNext := fun _ h => List.mem_cons_of_mem _ (List.mem_append_right _ h)
theorem lk_X11_isNext_1 : Cond.fieldLink RX11 95 "PartedHouseModel" "ring" "[I" ∈ wsX11_isNext := List.mem_of_getElem? (i := 1) rfl
theorem lk_X11_isNext_2 : Cond.fieldLink RX11 92 "PartedHouseModel" "leads" "[Z" ∈ wsX11_isNext := List.mem_of_getElem? (i := 2) rfl
abbrev rm_X11_isNext : Room := { frames := 0, cells := 0, slots := 0, locals := 0 }
def vr_isNext_2 (x1 : Int32) (g0 : jm_M) (K30 : Prop) (Post : Int32 → Prop) : Nat → Int32 → Prop
  | 0, _ => False
  | f + 1, x2 => ((x1 ≤ x2) → (K30)) ∧ ((¬ x1 ≤ x2) → ((vp_in x2 7) ∧ ((vp_in x1 7) ∧ (((¬ (g0 39 x2.toNatClampNeg) = (g0 39 x1.toNatClampNeg)) → (vr_isNext_2 x1 g0 K30 Post f (x2 + 1))) ∧ (((g0 39 x2.toNatClampNeg) = (g0 39 x1.toNatClampNeg)) → (Post 0))))))
def vr_isNext (a1 : Int32) (g0 : jm_M) (Post : Int32 → Prop) : Prop := ∃ n5 : Nat, vr_isNext_2 a1 g0 (((a1 = 0) → (Post 1)) ∧ ((¬ a1 = 0) → ((vp_in (a1 - 1) 7) ∧ ((vp_in a1 7) ∧ ((vp_in (((6 : Int32) * (g0 39 (a1 - 1).toNatClampNeg)) + (g0 39 a1.toNatClampNeg)) 36) ∧ ((((g0 38 (((6 : Int32) * (g0 39 (a1 - 1).toNatClampNeg)) + (g0 39 a1.toNatClampNeg)).toNatClampNeg) = 0) → (Post 0)) ∧ ((¬ (g0 38 (((6 : Int32) * (g0 39 (a1 - 1).toNatClampNeg)) + (g0 39 a1.toNatClampNeg)).toNatClampNeg) = 0) → (Post 1)))))))) Post n5 0
set_option maxHeartbeats 4000000 in
set_option maxRecDepth 100000 in
theorem ar_isNext_2 {p : Program} {l : Launch} {e : Env} {s : State} {m : MethodId} {args : Array Value} {below : List Frame} {meth : Method} {c : Code} {D : va_G} {cs : Nat → ClassId} {Y X : va_W} {ad : Nat → Nat} {g0 : jm_M} (hC : JC p s m args meth c D vwCl (va_A (wr_d Y X cs ad g0) s.heap.size) 3 cX11_isNext (some .boolean) wsX11_isNext RX11 (jt_tys cs)) (x1 : Int32) (Post : Int32 → Prop) (K30 : Prop) (hK30 : K30 → JJ (wr_d Y X cs ad) p l e rm_X11_isNext s m args below meth c D vwCl (va_A (wr_d Y X cs ad g0) s.heap.size) 3 0 0 (MQ below (jj_QI (wr_d Y X cs ad) D vwCl (jt_tys cs) g0 s.heap.size (fun r g2 => Post r ∧ g2 = g0)) args s 0 0 (va_A (wr_d Y X cs ad g0) s.heap.size)) 30 [(0, .ref (ad 0)), (1, .int x1)] [] g0) : ∀ (f : Nat) (x2 : Int32), vr_isNext_2 x1 g0 K30 Post f x2 → JJ (wr_d Y X cs ad) p l e rm_X11_isNext s m args below meth c D vwCl (va_A (wr_d Y X cs ad g0) s.heap.size) 3 0 0 (MQ below (jj_QI (wr_d Y X cs ad) D vwCl (jt_tys cs) g0 s.heap.size (fun r g2 => Post r ∧ g2 = g0)) args s 0 0 (va_A (wr_d Y X cs ad g0) s.heap.size)) 2 [(0, .ref (ad 0)), (1, .int x1), (2, .int x2)] [] g0 := by
  intro f
  induction f with
  | zero => intro x2 hV; exact hV.elim
  | succ f ih =>
    intro x2 hV
    rw [vr_isNext_2] at hV
    refine jj_iload_n (pc2 := 3) hC dX11_isNext_2 rfl 2 rfl rfl ?_
    refine jj_iload_n (pc2 := 4) hC dX11_isNext_3 rfl 1 rfl rfl ?_
    refine jj_icmp_ge (pc2 := 7) hC 30 dX11_isNext_4 (by decide) rfl (fun h1 => ?_) (fun h1 => ?_)
    · have hV := hV.1 h1
      exact jj_sub (lv2 := [(0, .ref (ad 0)), (1, .int x1)]) [0, 1] rfl (hK30  hV)
    · have hV := hV.2 h1
      refine jj_aload_n (pc2 := 8) hC dX11_isNext_7 rfl 0 rfl rfl ?_
      refine rg_39 (pc2 := 11) hC hi_X11_isNext_X11 lk_X11_isNext_1 dX11_isNext_8 rfl ?_
      refine jj_iload_n (pc2 := 12) hC dX11_isNext_11 rfl 2 rfl rfl ?_
      refine ra_39 (pc2 := 13) hC hV.1 dX11_isNext_12 rfl ?_
      have hV := hV.2
      refine jj_aload_n (pc2 := 14) hC dX11_isNext_13 rfl 0 rfl rfl ?_
      refine rg_39 (pc2 := 17) hC hi_X11_isNext_X11 lk_X11_isNext_1 dX11_isNext_14 rfl ?_
      refine jj_iload_n (pc2 := 18) hC dX11_isNext_17 rfl 1 rfl rfl ?_
      refine ra_39 (pc2 := 19) hC hV.1 dX11_isNext_18 rfl ?_
      have hV := hV.2
      refine jj_icmp_ne (pc2 := 22) hC 24 dX11_isNext_19 (by decide) rfl (fun h2 => ?_) (fun h2 => ?_)
      · have hV := hV.1 h2
        refine jj_iinc (pc2 := 27) hC (x2 + 1) [(2, .int (x2 + 1)), (0, .ref (ad 0)), (1, .int x1)] dX11_isNext_24 2 rfl rfl (by decide) rfl rfl ?_
        refine jj_goto hC 2 dX11_isNext_27 (by decide) ?_
        exact jj_sub (lv2 := [(0, .ref (ad 0)), (1, .int x1), (2, .int (x2 + 1))]) [1, 2, 0] rfl (ih (x2 + 1) hV)
      · have hV := hV.2 h2
        refine jj_iconst (pc2 := 23) hC 0 dX11_isNext_22 (by decide) rfl ?_
        exact jj_zret hC jj_nb0 dX11_isNext_23 ⟨hV, rfl⟩
set_option maxHeartbeats 4000000 in
set_option maxRecDepth 100000 in
theorem cr_isNext (l : Launch) (D : va_G) (cs : Nat → ClassId) (Y X : va_W) (ad : Nat → Nat) (a1 : Int32) (g0 : jm_M) (Post : Int32 → Prop) (hV : vr_isNext a1 g0 Post) : JI (wr_d Y X cs ad) D vwCl (jt_tys cs) l yX11_isNext wsX11_isNext rm_X11_isNext 0 0 [.ref (ad 0), .int a1] g0 (fun r g2 => Post r ∧ g2 = g0) := by
  refine jj_metI (cc := cX11_isNext) (nL := 3) (ret := (some .boolean)) (by decide) rfl (Nat.le_of_ble_eq_true rfl) [(0, .ref (ad 0)), (1, .int a1)] rfl ?_
  intro p e s m args below meth c hC hnm
  rw [vr_isNext] at hV
  refine jj_iconst (pc2 := 1) hC 0 dX11_isNext_0 (by decide) rfl ?_
  refine jj_istore_n (pc2 := 2) hC [(2, .int 0), (0, .ref (ad 0)), (1, .int a1)] dX11_isNext_1 rfl (by decide) rfl rfl ?_
  obtain ⟨n5, hV⟩ := hV
  refine jj_sub (lv2 := [(0, .ref (ad 0)), (1, .int a1), (2, .int 0)]) [1, 2, 0] rfl (ar_isNext_2 hC a1 Post _ (fun hV => ?_) n5 0 hV)
  refine jj_iload_n (pc2 := 31) hC dX11_isNext_30 rfl 1 rfl rfl ?_
  refine jj_if_eq (pc2 := 34) hC 60 dX11_isNext_31 (by decide) rfl (fun h3 => ?_) (fun h3 => ?_)
  · have hV := hV.1 h3
    refine jj_iconst (pc2 := 61) hC 1 dX11_isNext_60 (by decide) rfl ?_
    refine jj_goto hC 65 dX11_isNext_61 (by decide) ?_
    exact jj_zret hC jj_nb1 dX11_isNext_65 ⟨hV, rfl⟩
  · have hV := hV.2 h3
    refine jj_aload_n (pc2 := 35) hC dX11_isNext_34 rfl 0 rfl rfl ?_
    refine rg_38 (pc2 := 38) hC hi_X11_isNext_X11 lk_X11_isNext_2 dX11_isNext_35 rfl ?_
    refine jj_bipush (pc2 := 40) hC 6 dX11_isNext_38 (by decide) rfl ?_
    refine jj_aload_n (pc2 := 41) hC dX11_isNext_40 rfl 0 rfl rfl ?_
    refine rg_39 (pc2 := 44) hC hi_X11_isNext_X11 lk_X11_isNext_1 dX11_isNext_41 rfl ?_
    refine jj_iload_n (pc2 := 45) hC dX11_isNext_44 rfl 1 rfl rfl ?_
    refine jj_iconst (pc2 := 46) hC 1 dX11_isNext_45 (by decide) rfl ?_
    refine jj_isub (pc2 := 47) hC dX11_isNext_46 rfl ?_
    refine ra_39 (pc2 := 48) hC hV.1 dX11_isNext_47 rfl ?_
    have hV := hV.2
    refine jj_imul (pc2 := 49) hC dX11_isNext_48 rfl ?_
    refine jj_aload_n (pc2 := 50) hC dX11_isNext_49 rfl 0 rfl rfl ?_
    refine rg_39 (pc2 := 53) hC hi_X11_isNext_X11 lk_X11_isNext_1 dX11_isNext_50 rfl ?_
    refine jj_iload_n (pc2 := 54) hC dX11_isNext_53 rfl 1 rfl rfl ?_
    refine ra_39 (pc2 := 55) hC hV.1 dX11_isNext_54 rfl ?_
    have hV := hV.2
    refine jj_iadd (pc2 := 56) hC dX11_isNext_55 rfl ?_
    refine ra_38 (pc2 := 57) hC hV.1 dX11_isNext_56 rfl ?_
    have hV := hV.2
    refine jj_if_eq (pc2 := 60) hC 64 dX11_isNext_57 (by decide) rfl (fun h4 => ?_) (fun h4 => ?_)
    · have hV := hV.1 h4
      refine jj_iconst (pc2 := 65) hC 0 dX11_isNext_64 (by decide) rfl ?_
      exact jj_zret hC jj_nb0 dX11_isNext_65 ⟨hV, rfl⟩
    · have hV := hV.2 h4
      refine jj_iconst (pc2 := 61) hC 1 dX11_isNext_60 (by decide) rfl ?_
      refine jj_goto hC 65 dX11_isNext_61 (by decide) ?_
      exact jj_zret hC jj_nb1 dX11_isNext_65 ⟨hV, rfl⟩
theorem hi_X11_findRing_X11 : ∀ w ∈ u_ws RX11 TX11 63, w ∈ wsX11_findRing := fun _ h => List.mem_cons_of_mem _ (List.mem_append_right _ h)
theorem lk_X11_findRing_1 : Cond.fieldLink RX11 95 "PartedHouseModel" "ring" "[I" ∈ wsX11_findRing := List.mem_of_getElem? (i := 1) rfl
theorem lk_X11_findRing_2 : Cond.fieldLink RX11 92 "PartedHouseModel" "leads" "[Z" ∈ wsX11_findRing := List.mem_of_getElem? (i := 2) rfl
abbrev rm_X11_findRing : Room := { frames := 1, cells := 0, slots := 0, locals := 22 }
def vr_findRing_9 (x1 : Int32) (Post : Int32 → jm_M → Prop) : Nat → Int32 → jm_M → Prop
  | 0, _, _ => False
  | f + 1, x2, g => ((x2 < 0) → (Post 0 g)) ∧ ((¬ x2 < 0) → ((vp_in x2 7) ∧ ((vp_in x2 7) ∧ (∀ g3 : jm_M, g3 = jm_a g 39 x2 ((g 39 x2.toNatClampNeg) + 1) → ((vp_in x2 7) ∧ (((¬ (g3 39 x2.toNatClampNeg) = 6) → (vr_isNext x2 g3 (fun (r5 : Int32) => ((¬ r5 = 0) → (((¬ x2 = (x1 - 1)) → ((vp_in (x2 + 1) 7) ∧ (∀ g8 : jm_M, g8 = jm_a g3 39 (x2 + 1) (-1) → (vr_findRing_9 x1 Post f (x2 + 1) g8)))) ∧ ((x2 = (x1 - 1)) → ((vp_in x2 7) ∧ ((vp_in (((6 : Int32) * (g3 39 x2.toNatClampNeg)) + (g3 39 (0 : Int32).toNatClampNeg)) 36) ∧ ((((g3 38 (((6 : Int32) * (g3 39 x2.toNatClampNeg)) + (g3 39 (0 : Int32).toNatClampNeg)).toNatClampNeg) = 0) → (vr_findRing_9 x1 Post f x2 g3)) ∧ ((¬ (g3 38 (((6 : Int32) * (g3 39 x2.toNatClampNeg)) + (g3 39 (0 : Int32).toNatClampNeg)).toNatClampNeg) = 0) → (Post 1 g3)))))))) ∧ ((r5 = 0) → (vr_findRing_9 x1 Post f x2 g3))))) ∧ (((g3 39 x2.toNatClampNeg) = 6) → (vr_findRing_9 x1 Post f (x2 + (-1)) g3))))))))
def vr_findRing (a1 : Int32) (g0 : jm_M) (Post : Int32 → jm_M → Prop) : Prop := ∀ g1 : jm_M, g1 = jm_a g0 39 0 (-1) → (∃ n10 : Nat, vr_findRing_9 a1 Post n10 0 g1)
set_option maxHeartbeats 4000000 in
set_option maxRecDepth 100000 in
theorem ar_findRing_9 {p : Program} {l : Launch} {e : Env} {s : State} {m : MethodId} {args : Array Value} {below : List Frame} {meth : Method} {c : Code} {D : va_G} {cs : Nat → ClassId} {Y X : va_W} {ad : Nat → Nat} {g0 : jm_M} (hC : JC p s m args meth c D vwCl (va_A (wr_d Y X cs ad g0) s.heap.size) 3 cX11_findRing (some .boolean) wsX11_findRing RX11 (jt_tys cs)) (x1 : Int32) (Post : Int32 → jm_M → Prop) : ∀ (f : Nat) (x2 : Int32) (g : jm_M), vr_findRing_9 x1 Post f x2 g → JJ (wr_d Y X cs ad) p l e rm_X11_findRing s m args below meth c D vwCl (va_A (wr_d Y X cs ad g0) s.heap.size) 3 0 0 (MQ below (jj_QI (wr_d Y X cs ad) D vwCl (jt_tys cs) g0 s.heap.size Post) args s 0 0 (va_A (wr_d Y X cs ad g0) s.heap.size)) 9 [(0, .ref (ad 0)), (1, .int x1), (2, .int x2)] [] g := by
  intro f
  induction f with
  | zero => intro x2 g hV; exact hV.elim
  | succ f ih =>
    intro x2 g hV
    rw [vr_findRing_9] at hV
    refine jj_iload_n (pc2 := 10) hC dX11_findRing_9 rfl 2 rfl rfl ?_
    refine jj_if_lt (pc2 := 13) hC 97 dX11_findRing_10 (by decide) rfl (fun h2 => ?_) (fun h2 => ?_)
    · have hV := hV.1 h2
      refine jj_iconst (pc2 := 98) hC 0 dX11_findRing_97 (by decide) rfl ?_
      exact jj_zret hC jj_nb0 dX11_findRing_98 hV
    · have hV := hV.2 h2
      refine jj_aload_n (pc2 := 14) hC dX11_findRing_13 rfl 0 rfl rfl ?_
      refine rg_39 (pc2 := 17) hC hi_X11_findRing_X11 lk_X11_findRing_1 dX11_findRing_14 rfl ?_
      refine jj_iload_n (pc2 := 18) hC dX11_findRing_17 rfl 2 rfl rfl ?_
      refine jj_dup2 (pc2 := 19) hC dX11_findRing_18 rfl rfl rfl ?_
      refine ra_39 (pc2 := 20) hC hV.1 dX11_findRing_19 rfl ?_
      have hV := hV.2
      refine jj_iconst (pc2 := 21) hC 1 dX11_findRing_20 (by decide) rfl ?_
      refine jj_iadd (pc2 := 22) hC dX11_findRing_21 rfl ?_
      refine rs_39 (pc2 := 23) hC hV.1 dX11_findRing_22 rfl (fun g3 eg3 => ?_)
      have hV := hV.2 g3 eg3
      refine jj_aload_n (pc2 := 24) hC dX11_findRing_23 rfl 0 rfl rfl ?_
      refine rg_39 (pc2 := 27) hC hi_X11_findRing_X11 lk_X11_findRing_1 dX11_findRing_24 rfl ?_
      refine jj_iload_n (pc2 := 28) hC dX11_findRing_27 rfl 2 rfl rfl ?_
      refine ra_39 (pc2 := 29) hC hV.1 dX11_findRing_28 rfl ?_
      have hV := hV.2
      refine jj_bipush (pc2 := 31) hC 6 dX11_findRing_29 (by decide) rfl ?_
      refine jj_icmp_ne (pc2 := 34) hC 40 dX11_findRing_31 (by decide) rfl (fun h4 => ?_) (fun h4 => ?_)
      · have hV := hV.1 h4
        refine jj_aload_n (pc2 := 41) hC dX11_findRing_40 rfl 0 rfl rfl ?_
        refine jj_iload_n (pc2 := 42) hC dX11_findRing_41 rfl 2 rfl rfl ?_
        refine jj_cVIp (pc2 := 45) (wd := wr_d Y X cs ad) (g := g3) (rest := []) hC (Y.length + 0) (jx_at (V := wr_W cs ad g3) rfl) rfl rfl (cr_isNext l D cs Y X ad x2 g3 _ hV) (cwV 1 hC.1.2.2.2.2 gX11_findRing_X11_isNext rfl rfl rfl (by decide +kernel) ⟨by decide, by decide⟩) rfl (Nat.le_of_ble_eq_true rfl) _ rfl dX11_findRing_42 ⟨Nat.zero_le _, Nat.zero_le _⟩ rfl (fun r5 hV => ?_)
        refine jj_if_ne (pc2 := 48) hC 51 dX11_findRing_45 (by decide) rfl (fun h6 => ?_) (fun h6 => ?_)
        · have hV := hV.1 h6
          refine jj_iload_n (pc2 := 52) hC dX11_findRing_51 rfl 2 rfl rfl ?_
          refine jj_iload_n (pc2 := 53) hC dX11_findRing_52 rfl 1 rfl rfl ?_
          refine jj_iconst (pc2 := 54) hC 1 dX11_findRing_53 (by decide) rfl ?_
          refine jj_isub (pc2 := 55) hC dX11_findRing_54 rfl ?_
          refine jj_icmp_ne (pc2 := 58) hC 84 dX11_findRing_55 (by decide) rfl (fun h7 => ?_) (fun h7 => ?_)
          · have hV := hV.1 h7
            refine jj_iinc (pc2 := 87) hC (x2 + 1) [(2, .int (x2 + 1)), (0, .ref (ad 0)), (1, .int x1)] dX11_findRing_84 2 rfl rfl (by decide) rfl rfl ?_
            refine jj_aload_n (pc2 := 88) hC dX11_findRing_87 rfl 1 rfl rfl ?_
            refine rg_39 (pc2 := 91) hC hi_X11_findRing_X11 lk_X11_findRing_1 dX11_findRing_88 rfl ?_
            refine jj_iload_n (pc2 := 92) hC dX11_findRing_91 rfl 0 rfl rfl ?_
            refine jj_iconst (pc2 := 93) hC (-1) dX11_findRing_92 (by decide) rfl ?_
            refine rs_39 (pc2 := 94) hC hV.1 dX11_findRing_93 rfl (fun g8 eg8 => ?_)
            have hV := hV.2 g8 eg8
            refine jj_goto hC 9 dX11_findRing_94 (by decide) ?_
            exact jj_sub (lv2 := [(0, .ref (ad 0)), (1, .int x1), (2, .int (x2 + 1))]) [1, 2, 0] rfl (ih (x2 + 1) g8 hV)
          · have hV := hV.2 h7
            refine jj_aload_n (pc2 := 59) hC dX11_findRing_58 rfl 0 rfl rfl ?_
            refine rg_38 (pc2 := 62) hC hi_X11_findRing_X11 lk_X11_findRing_2 dX11_findRing_59 rfl ?_
            refine jj_bipush (pc2 := 64) hC 6 dX11_findRing_62 (by decide) rfl ?_
            refine jj_aload_n (pc2 := 65) hC dX11_findRing_64 rfl 0 rfl rfl ?_
            refine rg_39 (pc2 := 68) hC hi_X11_findRing_X11 lk_X11_findRing_1 dX11_findRing_65 rfl ?_
            refine jj_iload_n (pc2 := 69) hC dX11_findRing_68 rfl 2 rfl rfl ?_
            refine ra_39 (pc2 := 70) hC hV.1 dX11_findRing_69 rfl ?_
            have hV := hV.2
            refine jj_imul (pc2 := 71) hC dX11_findRing_70 rfl ?_
            refine jj_aload_n (pc2 := 72) hC dX11_findRing_71 rfl 0 rfl rfl ?_
            refine rg_39 (pc2 := 75) hC hi_X11_findRing_X11 lk_X11_findRing_1 dX11_findRing_72 rfl ?_
            refine jj_iconst (pc2 := 76) hC 0 dX11_findRing_75 (by decide) rfl ?_
            refine ra_39 (pc2 := 77) hC (jx_lit (by decide) (by decide)) dX11_findRing_76 rfl ?_
            refine jj_iadd (pc2 := 78) hC dX11_findRing_77 rfl ?_
            refine ra_38 (pc2 := 79) hC hV.1 dX11_findRing_78 rfl ?_
            have hV := hV.2
            refine jj_if_eq (pc2 := 82) hC 9 dX11_findRing_79 (by decide) rfl (fun h9 => ?_) (fun h9 => ?_)
            · have hV := hV.1 h9
              exact (ih x2 g3 hV)
            · have hV := hV.2 h9
              refine jj_iconst (pc2 := 83) hC 1 dX11_findRing_82 (by decide) rfl ?_
              exact jj_zret hC jj_nb1 dX11_findRing_83 hV
        · have hV := hV.2 h6
          refine jj_goto hC 9 dX11_findRing_48 (by decide) ?_
          exact (ih x2 g3 hV)
      · have hV := hV.2 h4
        refine jj_iinc (pc2 := 37) hC (x2 + (-1)) [(2, .int (x2 + (-1))), (0, .ref (ad 0)), (1, .int x1)] dX11_findRing_34 2 rfl rfl (by decide) rfl rfl ?_
        refine jj_goto hC 9 dX11_findRing_37 (by decide) ?_
        exact jj_sub (lv2 := [(0, .ref (ad 0)), (1, .int x1), (2, .int (x2 + (-1)))]) [1, 2, 0] rfl (ih (x2 + (-1)) g3 hV)
set_option maxHeartbeats 4000000 in
set_option maxRecDepth 100000 in
theorem cr_findRing (l : Launch) (D : va_G) (cs : Nat → ClassId) (Y X : va_W) (ad : Nat → Nat) (a1 : Int32) (g0 : jm_M) (Post : Int32 → jm_M → Prop) (hV : vr_findRing a1 g0 Post) : JI (wr_d Y X cs ad) D vwCl (jt_tys cs) l yX11_findRing wsX11_findRing rm_X11_findRing 0 0 [.ref (ad 0), .int a1] g0 Post := by
  refine jj_metI (cc := cX11_findRing) (nL := 3) (ret := (some .boolean)) (by decide) rfl (Nat.le_of_ble_eq_true rfl) [(0, .ref (ad 0)), (1, .int a1)] rfl ?_
  intro p e s m args below meth c hC hnm
  rw [vr_findRing] at hV
  refine jj_iconst (pc2 := 1) hC 0 dX11_findRing_0 (by decide) rfl ?_
  refine jj_istore_n (pc2 := 2) hC [(2, .int 0), (0, .ref (ad 0)), (1, .int a1)] dX11_findRing_1 rfl (by decide) rfl rfl ?_
  refine jj_aload_n (pc2 := 3) hC dX11_findRing_2 rfl 1 rfl rfl ?_
  refine rg_39 (pc2 := 6) hC hi_X11_findRing_X11 lk_X11_findRing_1 dX11_findRing_3 rfl ?_
  refine jj_iconst (pc2 := 7) hC 0 dX11_findRing_6 (by decide) rfl ?_
  refine jj_iconst (pc2 := 8) hC (-1) dX11_findRing_7 (by decide) rfl ?_
  refine rs_39 (pc2 := 9) hC (jx_lit (by decide) (by decide)) dX11_findRing_8 rfl (fun g1 eg1 => ?_)
  have hV := hV g1 eg1
  obtain ⟨n10, hV⟩ := hV
  refine jj_sub (lv2 := [(0, .ref (ad 0)), (1, .int a1), (2, .int 0)]) [1, 2, 0] rfl (ar_findRing_9 hC a1 Post n10 0 g1 hV)
theorem hi_X11_ring_X11 : ∀ w ∈ u_ws RX11 TX11 63, w ∈ wsX11_ring := fun _ h => List.mem_cons_of_mem _ (List.mem_append_right _ h)
theorem lk_X11_ring_1 : Cond.fieldLink RX11 95 "PartedHouseModel" "ring" "[I" ∈ wsX11_ring := List.mem_of_getElem? (i := 1) rfl
abbrev rm_X11_ring : Room := { frames := 2, cells := 0, slots := 0, locals := 48 }
def vr_ring_6 (x1 : Int32) (K20 : Int32 → jm_M → Prop) (Post : Int32 → jm_M → Prop) : Nat → Int32 → jm_M → Prop
  | 0, _, _ => False
  | f + 1, x2, g => ((6 < x2) → (Post (-1) g)) ∧ ((¬ 6 < x2) → (vr_findRing x2 g (fun (r4 : Int32) (g5 : jm_M) => ((r4 = 0) → (vr_ring_6 x1 K20 Post f (x2 + 1) g5)) ∧ ((¬ r4 = 0) → (K20 x2 g5)))))
def vr_ring (a1 : Int32) (g0 : jm_M) (Post : Int32 → jm_M → Prop) : Prop := vr_findLeads g0 (fun (g2 : jm_M) => ∃ n11 : Nat, vr_ring_6 a1 (fun (y7 : Int32) (g8 : jm_M) => vr_in a1 0 (y7 - 1) g8 (fun (r9 : Int32) => ((r9 = 0) → (Post (-1) g8)) ∧ ((¬ r9 = 0) → ((vp_in a1 7) ∧ (Post (g8 39 a1.toNatClampNeg) g8))))) Post n11 2 g2)
set_option maxHeartbeats 4000000 in
set_option maxRecDepth 100000 in
theorem ar_ring_6 {p : Program} {l : Launch} {e : Env} {s : State} {m : MethodId} {args : Array Value} {below : List Frame} {meth : Method} {c : Code} {D : va_G} {cs : Nat → ClassId} {Y X : va_W} {ad : Nat → Nat} {g0 : jm_M} (hC : JC p s m args meth c D vwCl (va_A (wr_d Y X cs ad g0) s.heap.size) 3 cX11_ring (some .int) wsX11_ring RX11 (jt_tys cs)) (x1 : Int32) (Post : Int32 → jm_M → Prop) (K20 : Int32 → jm_M → Prop) (hK20 : ∀ (z2 : Int32) (g : jm_M) , K20 z2 g → JJ (wr_d Y X cs ad) p l e rm_X11_ring s m args below meth c D vwCl (va_A (wr_d Y X cs ad g0) s.heap.size) 3 0 0 (MQ below (jj_QI (wr_d Y X cs ad) D vwCl (jt_tys cs) g0 s.heap.size Post) args s 0 0 (va_A (wr_d Y X cs ad g0) s.heap.size)) 20 [(0, .ref (ad 0)), (1, .int x1), (2, .int z2)] [] g) : ∀ (f : Nat) (x2 : Int32) (g : jm_M), vr_ring_6 x1 K20 Post f x2 g → JJ (wr_d Y X cs ad) p l e rm_X11_ring s m args below meth c D vwCl (va_A (wr_d Y X cs ad g0) s.heap.size) 3 0 0 (MQ below (jj_QI (wr_d Y X cs ad) D vwCl (jt_tys cs) g0 s.heap.size Post) args s 0 0 (va_A (wr_d Y X cs ad g0) s.heap.size)) 6 [(0, .ref (ad 0)), (1, .int x1), (2, .int x2)] [] g := by
  intro f
  induction f with
  | zero => intro x2 g hV; exact hV.elim
  | succ f ih =>
    intro x2 g hV
    rw [vr_ring_6] at hV
    refine jj_iload_n (pc2 := 7) hC dX11_ring_6 rfl 2 rfl rfl ?_
    refine jj_bipush (pc2 := 9) hC 6 dX11_ring_7 (by decide) rfl ?_
    refine jj_icmp_gt (pc2 := 12) hC 48 dX11_ring_9 (by decide) rfl (fun h3 => ?_) (fun h3 => ?_)
    · have hV := hV.1 h3
      refine jj_iconst (pc2 := 49) hC (-1) dX11_ring_48 (by decide) rfl ?_
      exact jj_iret hC dX11_ring_49 hV
    · have hV := hV.2 h3
      refine jj_aload_n (pc2 := 13) hC dX11_ring_12 rfl 0 rfl rfl ?_
      refine jj_iload_n (pc2 := 14) hC dX11_ring_13 rfl 2 rfl rfl ?_
      refine jj_cVI (pc2 := 17) (wd := wr_d Y X cs ad) (g := g) (rest := []) hC (Y.length + 0) (jx_at (V := wr_W cs ad g) rfl) rfl rfl (cr_findRing l D cs Y X ad x2 g _ hV) (cwV 1 hC.1.2.2.2.2 gX11_ring_X11_findRing rfl rfl rfl (by decide +kernel) ⟨by decide, by decide⟩) rfl (Nat.le_of_ble_eq_true rfl) _ rfl dX11_ring_14 ⟨Nat.zero_le _, Nat.zero_le _⟩ rfl (fun r4 g5 hV => ?_)
      refine jj_if_eq (pc2 := 20) hC 42 dX11_ring_17 (by decide) rfl (fun h6 => ?_) (fun h6 => ?_)
      · have hV := hV.1 h6
        refine jj_iinc (pc2 := 45) hC (x2 + 1) [(2, .int (x2 + 1)), (0, .ref (ad 0)), (1, .int x1)] dX11_ring_42 2 rfl rfl (by decide) rfl rfl ?_
        refine jj_goto hC 6 dX11_ring_45 (by decide) ?_
        exact jj_sub (lv2 := [(0, .ref (ad 0)), (1, .int x1), (2, .int (x2 + 1))]) [1, 2, 0] rfl (ih (x2 + 1) g5 hV)
      · have hV := hV.2 h6
        exact (hK20 x2 g5 hV)
set_option maxHeartbeats 4000000 in
set_option maxRecDepth 100000 in
theorem cr_ring (l : Launch) (D : va_G) (cs : Nat → ClassId) (Y X : va_W) (ad : Nat → Nat) (a1 : Int32) (g0 : jm_M) (Post : Int32 → jm_M → Prop) (hV : vr_ring a1 g0 Post) : JI (wr_d Y X cs ad) D vwCl (jt_tys cs) l yX11_ring wsX11_ring rm_X11_ring 0 0 [.ref (ad 0), .int a1] g0 Post := by
  refine jj_metI (cc := cX11_ring) (nL := 3) (ret := (some .int)) (by decide) rfl (Nat.le_of_ble_eq_true rfl) [(0, .ref (ad 0)), (1, .int a1)] rfl ?_
  intro p e s m args below meth c hC hnm
  rw [vr_ring] at hV
  refine jj_aload_n (pc2 := 1) hC dX11_ring_0 rfl 0 rfl rfl ?_
  refine jj_cVV (pc2 := 4) (wd := wr_d Y X cs ad) (g := g0) (rest := []) hC (Y.length + 0) (jx_at (V := wr_W cs ad g0) rfl) rfl rfl (cr_findLeads l D cs Y X ad  g0 _ hV) (cwV 0 hC.1.2.2.2.2 gX11_ring_X11_findLeads rfl rfl rfl (by decide +kernel) ⟨by decide, by decide⟩) rfl (Nat.le_of_ble_eq_true rfl) _ rfl dX11_ring_1 ⟨Nat.zero_le _, Nat.zero_le _⟩ rfl (fun g2 hV => ?_)
  refine jj_iconst (pc2 := 5) hC 2 dX11_ring_4 (by decide) rfl ?_
  refine jj_istore_n (pc2 := 6) hC [(2, .int 2), (0, .ref (ad 0)), (1, .int a1)] dX11_ring_5 rfl (by decide) rfl rfl ?_
  obtain ⟨n11, hV⟩ := hV
  refine jj_sub (lv2 := [(0, .ref (ad 0)), (1, .int a1), (2, .int 2)]) [1, 2, 0] rfl (ar_ring_6 hC a1 Post _ (fun y7 g8 hV => ?_) n11 2 g2 hV)
  refine jj_iload_n (pc2 := 21) hC dX11_ring_20 rfl 1 rfl rfl ?_
  refine jj_iconst (pc2 := 22) hC 0 dX11_ring_21 (by decide) rfl ?_
  refine jj_iload_n (pc2 := 23) hC dX11_ring_22 rfl 2 rfl rfl ?_
  refine jj_iconst (pc2 := 24) hC 1 dX11_ring_23 (by decide) rfl ?_
  refine jj_isub (pc2 := 25) hC dX11_ring_24 rfl ?_
  refine jj_cSIp (pc2 := 28) (wd := wr_d Y X cs ad) (g := g8) (rest := []) hC (cr_in l D cs Y X ad a1 0 (y7 - 1) g8 _ hV) (va_cwS 3 hC.1.2.2.2.2 gX11_ring_X11_in rfl rfl rfl (by decide +kernel) ⟨by decide, by decide⟩) rfl (Nat.le_of_ble_eq_true rfl) _ rfl dX11_ring_25 ⟨Nat.zero_le _, Nat.zero_le _⟩ rfl (fun r9 hV => ?_)
  refine jj_if_eq (pc2 := 31) hC 40 dX11_ring_28 (by decide) rfl (fun h10 => ?_) (fun h10 => ?_)
  · have hV := hV.1 h10
    refine jj_iconst (pc2 := 41) hC (-1) dX11_ring_40 (by decide) rfl ?_
    exact jj_iret hC dX11_ring_41 hV
  · have hV := hV.2 h10
    refine jj_aload_n (pc2 := 32) hC dX11_ring_31 rfl 0 rfl rfl ?_
    refine rg_39 (pc2 := 35) hC hi_X11_ring_X11 lk_X11_ring_1 dX11_ring_32 rfl ?_
    refine jj_iload_n (pc2 := 36) hC dX11_ring_35 rfl 1 rfl rfl ?_
    refine ra_39 (pc2 := 37) hC hV.1 dX11_ring_36 rfl ?_
    have hV := hV.2
    refine jj_goto hC 41 dX11_ring_37 (by decide) ?_
    exact jj_iret hC dX11_ring_41 hV
theorem hi_X11_runNew_X11 : ∀ w ∈ u_ws RX11 TX11 63, w ∈ wsX11_runNew := fun _ h => List.mem_cons_of_mem _ (List.mem_append_right _ h)
theorem lk_X11_runNew_8 : Cond.fieldLink RX11 49 "PartedHouseModel" "written" "[I" ∈ wsX11_runNew := List.mem_of_getElem? (i := 8) rfl
theorem lk_X11_runNew_7 : Cond.fieldLink RX11 13 "PartedHouseModel" "home" "[I" ∈ wsX11_runNew := List.mem_of_getElem? (i := 7) rfl
theorem lk_X11_runNew_4 : Cond.fieldLink RX11 74 "PartedHouseModel" "room" "[I" ∈ wsX11_runNew := List.mem_of_getElem? (i := 4) rfl
theorem lk_X11_runNew_6 : Cond.fieldLink RX11 174 "PartedHouseModel" "writtenMany" "I" ∈ wsX11_runNew := List.mem_of_getElem? (i := 6) rfl
theorem lk_X11_runNew_9 : Cond.fieldLink RX11 242 "PartedHouseModel" "sent" "I" ∈ wsX11_runNew := List.mem_of_getElem? (i := 9) rfl
theorem lk_X11_runNew_15 : Cond.fieldLink RX11 110 "PartedHouseModel" "waits" "[Z" ∈ wsX11_runNew := List.mem_of_getElem? (i := 15) rfl
theorem lk_X11_runNew_14 : Cond.fieldLink RX11 107 "PartedHouseModel" "letterTo" "[I" ∈ wsX11_runNew := List.mem_of_getElem? (i := 14) rfl
theorem lk_X11_runNew_13 : Cond.fieldLink RX11 104 "PartedHouseModel" "letterFrom" "[I" ∈ wsX11_runNew := List.mem_of_getElem? (i := 13) rfl
theorem lk_X11_runNew_10 : Cond.fieldLink RX11 37 "PartedHouseModel" "work" "[I" ∈ wsX11_runNew := List.mem_of_getElem? (i := 10) rfl
theorem lk_X11_runNew_12 : Cond.fieldLink RX11 101 "PartedHouseModel" "letterSays" "[I" ∈ wsX11_runNew := List.mem_of_getElem? (i := 12) rfl
theorem lk_X11_runNew_11 : Cond.fieldLink RX11 98 "PartedHouseModel" "letterCell" "[I" ∈ wsX11_runNew := List.mem_of_getElem? (i := 11) rfl
theorem lk_X11_runNew_1 : Cond.fieldLink RX11 34 "PartedHouseModel" "fresh" "[I" ∈ wsX11_runNew := List.mem_of_getElem? (i := 1) rfl
theorem lk_X11_runNew_17 : Cond.fieldLink RX11 177 "PartedHouseModel" "answer" "I" ∈ wsX11_runNew := List.mem_of_getElem? (i := 17) rfl
theorem lk_X11_runNew_16 : Cond.fieldLink RX11 245 "PartedHouseModel" "actsNew" "I" ∈ wsX11_runNew := List.mem_of_getElem? (i := 16) rfl
theorem lk_X11_runNew_3 : Cond.constant RX11 192 (-2000000000) ∈ wsX11_runNew := List.mem_of_getElem? (i := 3) rfl
theorem lk_X11_runNew_2 : Cond.fieldLink RX11 188 "PartedHouseModel" "ended" "Z" ∈ wsX11_runNew := List.mem_of_getElem? (i := 2) rfl
theorem lk_X11_runNew_5 : Cond.fieldLink RX11 16 "PartedHouseModel" "moduleOf" "[I" ∈ wsX11_runNew := List.mem_of_getElem? (i := 5) rfl
abbrev rm_X11_runNew : Room := { frames := 2, cells := 0, slots := 0, locals := 54 }
def vr_runNew_42 (x3 : Int32) (g : jm_M) (K91 : Int32 → Prop) (Post : Int32 → jm_M → Prop) : Nat → Int32 → Int32 → Prop
  | 0, _, _ => False
  | f + 1, x4, x5 => (((g 17 0) ≤ x5) → (K91 x4)) ∧ ((¬ (g 17 0) ≤ x5) → ((vp_in x5 128) ∧ ((vp_in ((g 18 x5.toNatClampNeg) / 8) 16) ∧ ((vp_in (g 4 ((g 18 x5.toNatClampNeg) / 8).toNatClampNeg) 10) ∧ (((¬ (g 30 (g 4 ((g 18 x5.toNatClampNeg) / 8).toNatClampNeg).toNatClampNeg) = x3) → (∀ y8 : Int32, y8 = x4 + 1 → (vr_runNew_42 x3 g K91 Post f y8 (x5 + 1)))) ∧ (((g 30 (g 4 ((g 18 x5.toNatClampNeg) / 8).toNatClampNeg).toNatClampNeg) = x3) → (∀ y9 : Int32, y9 = x4 + 0 → (vr_runNew_42 x3 g K91 Post f y9 (x5 + 1)))))))))
def vr_runNew_132 (x3 : Int32) (K264 : jm_M → Prop) (Post : Int32 → jm_M → Prop) : Nat → Int32 → jm_M → Prop
  | 0, _, _ => False
  | f + 1, x5, g => (((g 17 0) ≤ x5) → (K264 g)) ∧ ((¬ (g 17 0) ≤ x5) → ((vp_in x5 128) ∧ (∀ y13 : Int32, y13 = g 18 x5.toNatClampNeg → ((vp_in (y13 / 8) 16) ∧ ((vp_in (g 4 (y13 / 8).toNatClampNeg) 10) ∧ (∀ y14 : Int32, y14 = g 30 (g 4 (y13 / 8).toNatClampNeg).toNatClampNeg → (((¬ y14 = x3) → ((vp_in (g 40 0) 2000) ∧ (∀ g16 : jm_M, g16 = jm_a g 41 (g 40 0) y13 → ((vp_in y13 128) ∧ ((vp_in (g16 40 0) 2000) ∧ (∀ g17 : jm_M, g17 = jm_a g16 42 (g16 40 0) (g16 13 y13.toNatClampNeg) → ((vp_in (g17 40 0) 2000) ∧ (∀ g18 : jm_M, g18 = jm_a g17 43 (g17 40 0) x3 → ((vp_in (g18 40 0) 2000) ∧ (∀ g19 : jm_M, g19 = jm_a g18 44 (g18 40 0) y14 → ((vp_in (g19 40 0) 2000) ∧ (∀ g20 : jm_M, g20 = jm_a g19 45 (g19 40 0) 1 → (∀ g21 : jm_M, g21 = jm_s g20 40 ((g20 40 0) + 1) → (vr_runNew_132 x3 K264 Post f (x5 + 1) g21)))))))))))))) ∧ ((y14 = x3) → ((vp_in y13 128) ∧ ((vp_in y13 128) ∧ (∀ g22 : jm_M, g22 = jm_a g 12 y13 (g 13 y13.toNatClampNeg) → (vr_runNew_132 x3 K264 Post f (x5 + 1) g22))))))))))))
def vr_runNew (a1 : Int32) (a2 : Int32) (g0 : jm_M) (Post : Int32 → jm_M → Prop) : Prop := vr_works 12 a1 a2 g0 (fun (r1 : Int32) (g2 : jm_M) => (jj_nb r1) ∧ (∀ g3 : jm_M, g3 = jm_s g2 23 r1 → (((¬ (g3 23 0) = 0) → ((vp_in a1 40) ∧ ((vp_in (g3 6 a1.toNatClampNeg) 10) ∧ (∀ y5 : Int32, y5 = g3 30 (g3 6 a1.toNatClampNeg).toNatClampNeg → (∃ n34 : Nat, vr_runNew_42 y5 g3 (fun (y10 : Int32) => ((y10 ≤ 0) → (∃ n25 : Nat, vr_runNew_132 y5 (fun (g23 : jm_M) => ∀ g24 : jm_M, g24 = jm_s g23 29 ((g23 29 0) + 1) → (Post (g24 22 0) g24)) Post n25 0 g3)) ∧ ((¬ y10 ≤ 0) → (vr_waitingNow g3 (fun (r26 : Int32) => ((40 < (r26 + y10)) → (∀ g28 : jm_M, g28 = jm_s g3 23 0 → (Post (-2000000000) g28))) ∧ ((¬ 40 < (r26 + y10)) → (((((g3 40 0) + y10) ≤ 2000) → (∃ n32 : Nat, vr_runNew_132 y5 (fun (g30 : jm_M) => ∀ g31 : jm_M, g31 = jm_s g30 29 ((g30 29 0) + 1) → (Post (g31 22 0) g31)) Post n32 0 g3)) ∧ ((¬ ((g3 40 0) + y10) ≤ 2000) → (∀ g33 : jm_M, g33 = jm_s g3 23 0 → (Post (-2000000000) g33))))))))) Post n34 0 0))))) ∧ (((g3 23 0) = 0) → (Post (-2000000000) g3)))))
set_option maxHeartbeats 4000000 in
set_option maxRecDepth 100000 in
theorem ar_runNew_42 {p : Program} {l : Launch} {e : Env} {s : State} {m : MethodId} {args : Array Value} {below : List Frame} {meth : Method} {c : Code} {D : va_G} {cs : Nat → ClassId} {Y X : va_W} {ad : Nat → Nat} {g0 : jm_M} (hC : JC p s m args meth c D vwCl (va_A (wr_d Y X cs ad g0) s.heap.size) 8 cX11_runNew (some .int) wsX11_runNew RX11 (jt_tys cs)) (x3 : Int32) (g : jm_M) (Post : Int32 → jm_M → Prop) (K91 : Int32 → Prop) (hK91 : ∀ (z4 : Int32) , K91 z4 → JJ (wr_d Y X cs ad) p l e rm_X11_runNew s m args below meth c D vwCl (va_A (wr_d Y X cs ad g0) s.heap.size) 8 0 0 (MQ below (jj_QI (wr_d Y X cs ad) D vwCl (jt_tys cs) g0 s.heap.size Post) args s 0 0 (va_A (wr_d Y X cs ad g0) s.heap.size)) 91 [(0, .ref (ad 0)), (3, .int x3), (4, .int z4)] [] g) : ∀ (f : Nat) (x4 : Int32) (x5 : Int32), vr_runNew_42 x3 g K91 Post f x4 x5 → JJ (wr_d Y X cs ad) p l e rm_X11_runNew s m args below meth c D vwCl (va_A (wr_d Y X cs ad g0) s.heap.size) 8 0 0 (MQ below (jj_QI (wr_d Y X cs ad) D vwCl (jt_tys cs) g0 s.heap.size Post) args s 0 0 (va_A (wr_d Y X cs ad g0) s.heap.size)) 42 [(0, .ref (ad 0)), (3, .int x3), (4, .int x4), (5, .int x5)] [] g := by
  intro f
  induction f with
  | zero => intro x4 x5 hV; exact hV.elim
  | succ f ih =>
    intro x4 x5 hV
    rw [vr_runNew_42] at hV
    refine jj_iload (pc2 := 44) hC dX11_runNew_42 3 rfl rfl ?_
    refine jj_aload_n (pc2 := 45) hC dX11_runNew_44 rfl 0 rfl rfl ?_
    refine rg_17 (pc2 := 48) hC hi_X11_runNew_X11 lk_X11_runNew_6 dX11_runNew_45 rfl ?_
    refine jj_icmp_ge (pc2 := 51) hC 91 dX11_runNew_48 (by decide) rfl (fun h6 => ?_) (fun h6 => ?_)
    · have hV := hV.1 h6
      exact jj_sub (lv2 := [(0, .ref (ad 0)), (3, .int x3), (4, .int x4)]) [0, 1, 2] rfl (hK91 x4 hV)
    · have hV := hV.2 h6
      refine jj_iload (pc2 := 53) hC dX11_runNew_51 2 rfl rfl ?_
      refine jj_aload_n (pc2 := 54) hC dX11_runNew_53 rfl 0 rfl rfl ?_
      refine rg_30 (pc2 := 57) hC hi_X11_runNew_X11 lk_X11_runNew_4 dX11_runNew_54 rfl ?_
      refine jj_aload_n (pc2 := 58) hC dX11_runNew_57 rfl 0 rfl rfl ?_
      refine rg_4 (pc2 := 61) hC hi_X11_runNew_X11 lk_X11_runNew_7 dX11_runNew_58 rfl ?_
      refine jj_aload_n (pc2 := 62) hC dX11_runNew_61 rfl 0 rfl rfl ?_
      refine rg_18 (pc2 := 65) hC hi_X11_runNew_X11 lk_X11_runNew_8 dX11_runNew_62 rfl ?_
      refine jj_iload (pc2 := 67) hC dX11_runNew_65 3 rfl rfl ?_
      refine ra_18 (pc2 := 68) hC hV.1 dX11_runNew_67 rfl ?_
      have hV := hV.2
      refine jj_bipush (pc2 := 70) hC 8 dX11_runNew_68 (by decide) rfl ?_
      refine jj_idiv (pc2 := 71) hC dX11_runNew_70 (by decide) rfl ?_
      refine ra_4 (pc2 := 72) hC hV.1 dX11_runNew_71 rfl ?_
      have hV := hV.2
      refine ra_30 (pc2 := 73) hC hV.1 dX11_runNew_72 rfl ?_
      have hV := hV.2
      refine jj_iload_n (pc2 := 74) hC dX11_runNew_73 rfl 1 rfl rfl ?_
      refine jj_icmp_ne (pc2 := 77) hC 81 dX11_runNew_74 (by decide) rfl (fun h7 => ?_) (fun h7 => ?_)
      · have hV := hV.1 h7
        refine jj_iconst (pc2 := 82) hC 1 dX11_runNew_81 (by decide) rfl ?_
        refine jj_iadd (pc2 := 83) hC dX11_runNew_82 rfl ?_
        refine jj_topi (fun y8 ey8 => ?_)
        have hV := hV y8 ey8
        refine jj_istore (pc2 := 85) hC [(4, .int y8), (0, .ref (ad 0)), (3, .int x3), (5, .int x5)] dX11_runNew_83 (by decide) rfl rfl ?_
        refine jj_iinc (pc2 := 88) hC (x5 + 1) [(5, .int (x5 + 1)), (4, .int y8), (0, .ref (ad 0)), (3, .int x3)] dX11_runNew_85 3 rfl rfl (by decide) rfl rfl ?_
        refine jj_goto hC 42 dX11_runNew_88 (by decide) ?_
        exact jj_sub (lv2 := [(0, .ref (ad 0)), (3, .int x3), (4, .int y8), (5, .int (x5 + 1))]) [2, 3, 1, 0] rfl (ih y8 (x5 + 1) hV)
      · have hV := hV.2 h7
        refine jj_iconst (pc2 := 78) hC 0 dX11_runNew_77 (by decide) rfl ?_
        refine jj_goto hC 82 dX11_runNew_78 (by decide) ?_
        refine jj_iadd (pc2 := 83) hC dX11_runNew_82 rfl ?_
        refine jj_topi (fun y9 ey9 => ?_)
        have hV := hV y9 ey9
        refine jj_istore (pc2 := 85) hC [(4, .int y9), (0, .ref (ad 0)), (3, .int x3), (5, .int x5)] dX11_runNew_83 (by decide) rfl rfl ?_
        refine jj_iinc (pc2 := 88) hC (x5 + 1) [(5, .int (x5 + 1)), (4, .int y9), (0, .ref (ad 0)), (3, .int x3)] dX11_runNew_85 3 rfl rfl (by decide) rfl rfl ?_
        refine jj_goto hC 42 dX11_runNew_88 (by decide) ?_
        exact jj_sub (lv2 := [(0, .ref (ad 0)), (3, .int x3), (4, .int y9), (5, .int (x5 + 1))]) [2, 3, 1, 0] rfl (ih y9 (x5 + 1) hV)
set_option maxHeartbeats 4000000 in
set_option maxRecDepth 100000 in
theorem ar_runNew_132 {p : Program} {l : Launch} {e : Env} {s : State} {m : MethodId} {args : Array Value} {below : List Frame} {meth : Method} {c : Code} {D : va_G} {cs : Nat → ClassId} {Y X : va_W} {ad : Nat → Nat} {g0 : jm_M} (hC : JC p s m args meth c D vwCl (va_A (wr_d Y X cs ad g0) s.heap.size) 8 cX11_runNew (some .int) wsX11_runNew RX11 (jt_tys cs)) (x3 : Int32) (Post : Int32 → jm_M → Prop) (K264 : jm_M → Prop) (hK264 : ∀ (g : jm_M) , K264 g → JJ (wr_d Y X cs ad) p l e rm_X11_runNew s m args below meth c D vwCl (va_A (wr_d Y X cs ad g0) s.heap.size) 8 0 0 (MQ below (jj_QI (wr_d Y X cs ad) D vwCl (jt_tys cs) g0 s.heap.size Post) args s 0 0 (va_A (wr_d Y X cs ad g0) s.heap.size)) 264 [(0, .ref (ad 0))] [] g) : ∀ (f : Nat) (x5 : Int32) (g : jm_M), vr_runNew_132 x3 K264 Post f x5 g → JJ (wr_d Y X cs ad) p l e rm_X11_runNew s m args below meth c D vwCl (va_A (wr_d Y X cs ad g0) s.heap.size) 8 0 0 (MQ below (jj_QI (wr_d Y X cs ad) D vwCl (jt_tys cs) g0 s.heap.size Post) args s 0 0 (va_A (wr_d Y X cs ad g0) s.heap.size)) 132 [(0, .ref (ad 0)), (3, .int x3), (5, .int x5)] [] g := by
  intro f
  induction f with
  | zero => intro x5 g hV; exact hV.elim
  | succ f ih =>
    intro x5 g hV
    rw [vr_runNew_132] at hV
    refine jj_iload (pc2 := 134) hC dX11_runNew_132 2 rfl rfl ?_
    refine jj_aload_n (pc2 := 135) hC dX11_runNew_134 rfl 0 rfl rfl ?_
    refine rg_17 (pc2 := 138) hC hi_X11_runNew_X11 lk_X11_runNew_6 dX11_runNew_135 rfl ?_
    refine jj_icmp_ge (pc2 := 141) hC 264 dX11_runNew_138 (by decide) rfl (fun h12 => ?_) (fun h12 => ?_)
    · have hV := hV.1 h12
      exact jj_sub (lv2 := [(0, .ref (ad 0))]) [0] rfl (hK264 g hV)
    · have hV := hV.2 h12
      refine jj_aload_n (pc2 := 142) hC dX11_runNew_141 rfl 0 rfl rfl ?_
      refine rg_18 (pc2 := 145) hC hi_X11_runNew_X11 lk_X11_runNew_8 dX11_runNew_142 rfl ?_
      refine jj_iload (pc2 := 147) hC dX11_runNew_145 2 rfl rfl ?_
      refine ra_18 (pc2 := 148) hC hV.1 dX11_runNew_147 rfl ?_
      have hV := hV.2
      refine jj_topi (fun y13 ey13 => ?_)
      have hV := hV y13 ey13
      refine jj_istore (pc2 := 150) hC [(6, .int y13), (0, .ref (ad 0)), (3, .int x3), (5, .int x5)] dX11_runNew_148 (by decide) rfl rfl ?_
      refine jj_aload_n (pc2 := 151) hC dX11_runNew_150 rfl 1 rfl rfl ?_
      refine rg_30 (pc2 := 154) hC hi_X11_runNew_X11 lk_X11_runNew_4 dX11_runNew_151 rfl ?_
      refine jj_aload_n (pc2 := 155) hC dX11_runNew_154 rfl 1 rfl rfl ?_
      refine rg_4 (pc2 := 158) hC hi_X11_runNew_X11 lk_X11_runNew_7 dX11_runNew_155 rfl ?_
      refine jj_iload (pc2 := 160) hC dX11_runNew_158 0 rfl rfl ?_
      refine jj_bipush (pc2 := 162) hC 8 dX11_runNew_160 (by decide) rfl ?_
      refine jj_idiv (pc2 := 163) hC dX11_runNew_162 (by decide) rfl ?_
      refine ra_4 (pc2 := 164) hC hV.1 dX11_runNew_163 rfl ?_
      have hV := hV.2
      refine ra_30 (pc2 := 165) hC hV.1 dX11_runNew_164 rfl ?_
      have hV := hV.2
      refine jj_topi (fun y14 ey14 => ?_)
      have hV := hV y14 ey14
      refine jj_istore (pc2 := 167) hC [(7, .int y14), (6, .int y13), (0, .ref (ad 0)), (3, .int x3), (5, .int x5)] dX11_runNew_165 (by decide) rfl rfl ?_
      refine jj_iload (pc2 := 169) hC dX11_runNew_167 0 rfl rfl ?_
      refine jj_iload_n (pc2 := 170) hC dX11_runNew_169 rfl 3 rfl rfl ?_
      refine jj_icmp_ne (pc2 := 173) hC 190 dX11_runNew_170 (by decide) rfl (fun h15 => ?_) (fun h15 => ?_)
      · have hV := hV.1 h15
        refine jj_aload_n (pc2 := 191) hC dX11_runNew_190 rfl 2 rfl rfl ?_
        refine rg_41 (pc2 := 194) hC hi_X11_runNew_X11 lk_X11_runNew_11 dX11_runNew_191 rfl ?_
        refine jj_aload_n (pc2 := 195) hC dX11_runNew_194 rfl 2 rfl rfl ?_
        refine rg_40 (pc2 := 198) hC hi_X11_runNew_X11 lk_X11_runNew_9 dX11_runNew_195 rfl ?_
        refine jj_iload (pc2 := 200) hC dX11_runNew_198 1 rfl rfl ?_
        refine rs_41 (pc2 := 201) hC hV.1 dX11_runNew_200 rfl (fun g16 eg16 => ?_)
        have hV := hV.2 g16 eg16
        refine jj_aload_n (pc2 := 202) hC dX11_runNew_201 rfl 2 rfl rfl ?_
        refine rg_42 (pc2 := 205) hC hi_X11_runNew_X11 lk_X11_runNew_12 dX11_runNew_202 rfl ?_
        refine jj_aload_n (pc2 := 206) hC dX11_runNew_205 rfl 2 rfl rfl ?_
        refine rg_40 (pc2 := 209) hC hi_X11_runNew_X11 lk_X11_runNew_9 dX11_runNew_206 rfl ?_
        refine jj_aload_n (pc2 := 210) hC dX11_runNew_209 rfl 2 rfl rfl ?_
        refine rg_13 (pc2 := 213) hC hi_X11_runNew_X11 lk_X11_runNew_10 dX11_runNew_210 rfl ?_
        refine jj_iload (pc2 := 215) hC dX11_runNew_213 1 rfl rfl ?_
        refine ra_13 (pc2 := 216) hC hV.1 dX11_runNew_215 rfl ?_
        have hV := hV.2
        refine rs_42 (pc2 := 217) hC hV.1 dX11_runNew_216 rfl (fun g17 eg17 => ?_)
        have hV := hV.2 g17 eg17
        refine jj_aload_n (pc2 := 218) hC dX11_runNew_217 rfl 2 rfl rfl ?_
        refine rg_43 (pc2 := 221) hC hi_X11_runNew_X11 lk_X11_runNew_13 dX11_runNew_218 rfl ?_
        refine jj_aload_n (pc2 := 222) hC dX11_runNew_221 rfl 2 rfl rfl ?_
        refine rg_40 (pc2 := 225) hC hi_X11_runNew_X11 lk_X11_runNew_9 dX11_runNew_222 rfl ?_
        refine jj_iload_n (pc2 := 226) hC dX11_runNew_225 rfl 3 rfl rfl ?_
        refine rs_43 (pc2 := 227) hC hV.1 dX11_runNew_226 rfl (fun g18 eg18 => ?_)
        have hV := hV.2 g18 eg18
        refine jj_aload_n (pc2 := 228) hC dX11_runNew_227 rfl 2 rfl rfl ?_
        refine rg_44 (pc2 := 231) hC hi_X11_runNew_X11 lk_X11_runNew_14 dX11_runNew_228 rfl ?_
        refine jj_aload_n (pc2 := 232) hC dX11_runNew_231 rfl 2 rfl rfl ?_
        refine rg_40 (pc2 := 235) hC hi_X11_runNew_X11 lk_X11_runNew_9 dX11_runNew_232 rfl ?_
        refine jj_iload (pc2 := 237) hC dX11_runNew_235 0 rfl rfl ?_
        refine rs_44 (pc2 := 238) hC hV.1 dX11_runNew_237 rfl (fun g19 eg19 => ?_)
        have hV := hV.2 g19 eg19
        refine jj_aload_n (pc2 := 239) hC dX11_runNew_238 rfl 2 rfl rfl ?_
        refine rg_45 (pc2 := 242) hC hi_X11_runNew_X11 lk_X11_runNew_15 dX11_runNew_239 rfl ?_
        refine jj_aload_n (pc2 := 243) hC dX11_runNew_242 rfl 2 rfl rfl ?_
        refine rg_40 (pc2 := 246) hC hi_X11_runNew_X11 lk_X11_runNew_9 dX11_runNew_243 rfl ?_
        refine jj_iconst (pc2 := 247) hC 1 dX11_runNew_246 (by decide) rfl ?_
        refine rs_45 (pc2 := 248) hC hV.1 jj_nb1 dX11_runNew_247 rfl (fun g20 eg20 => ?_)
        have hV := hV.2 g20 eg20
        refine jj_aload_n (pc2 := 249) hC dX11_runNew_248 rfl 2 rfl rfl ?_
        refine jj_dup (pc2 := 250) hC dX11_runNew_249 rfl rfl ?_
        refine rg_40 (pc2 := 253) hC hi_X11_runNew_X11 lk_X11_runNew_9 dX11_runNew_250 rfl ?_
        refine jj_iconst (pc2 := 254) hC 1 dX11_runNew_253 (by decide) rfl ?_
        refine jj_iadd (pc2 := 255) hC dX11_runNew_254 rfl ?_
        refine rp_40 (pc2 := 258) hC hi_X11_runNew_X11 lk_X11_runNew_9 dX11_runNew_255 rfl (fun g21 eg21 => ?_)
        have hV := hV g21 eg21
        refine jj_iinc (pc2 := 261) hC (x5 + 1) [(5, .int (x5 + 1)), (7, .int y14), (6, .int y13), (0, .ref (ad 0)), (3, .int x3)] dX11_runNew_258 4 rfl rfl (by decide) rfl rfl ?_
        refine jj_goto hC 132 dX11_runNew_261 (by decide) ?_
        exact jj_sub (lv2 := [(0, .ref (ad 0)), (3, .int x3), (5, .int (x5 + 1))]) [3, 4, 0] rfl (ih (x5 + 1) g21 hV)
      · have hV := hV.2 h15
        refine jj_aload_n (pc2 := 174) hC dX11_runNew_173 rfl 2 rfl rfl ?_
        refine rg_12 (pc2 := 177) hC hi_X11_runNew_X11 lk_X11_runNew_1 dX11_runNew_174 rfl ?_
        refine jj_iload (pc2 := 179) hC dX11_runNew_177 1 rfl rfl ?_
        refine jj_aload_n (pc2 := 180) hC dX11_runNew_179 rfl 2 rfl rfl ?_
        refine rg_13 (pc2 := 183) hC hi_X11_runNew_X11 lk_X11_runNew_10 dX11_runNew_180 rfl ?_
        refine jj_iload (pc2 := 185) hC dX11_runNew_183 1 rfl rfl ?_
        refine ra_13 (pc2 := 186) hC hV.1 dX11_runNew_185 rfl ?_
        have hV := hV.2
        refine rs_12 (pc2 := 187) hC hV.1 dX11_runNew_186 rfl (fun g22 eg22 => ?_)
        have hV := hV.2 g22 eg22
        refine jj_goto hC 258 dX11_runNew_187 (by decide) ?_
        refine jj_iinc (pc2 := 261) hC (x5 + 1) [(5, .int (x5 + 1)), (7, .int y14), (6, .int y13), (0, .ref (ad 0)), (3, .int x3)] dX11_runNew_258 4 rfl rfl (by decide) rfl rfl ?_
        refine jj_goto hC 132 dX11_runNew_261 (by decide) ?_
        exact jj_sub (lv2 := [(0, .ref (ad 0)), (3, .int x3), (5, .int (x5 + 1))]) [3, 4, 0] rfl (ih (x5 + 1) g22 hV)
set_option maxHeartbeats 4000000 in
set_option maxRecDepth 100000 in
theorem cr_runNew (l : Launch) (D : va_G) (cs : Nat → ClassId) (Y X : va_W) (ad : Nat → Nat) (a1 : Int32) (a2 : Int32) (g0 : jm_M) (Post : Int32 → jm_M → Prop) (hV : vr_runNew a1 a2 g0 Post) : JI (wr_d Y X cs ad) D vwCl (jt_tys cs) l yX11_runNew wsX11_runNew rm_X11_runNew 0 0 [.ref (ad 0), .int a1, .int a2] g0 Post := by
  refine jj_metI (cc := cX11_runNew) (nL := 8) (ret := (some .int)) (by decide) rfl (Nat.le_of_ble_eq_true rfl) [(0, .ref (ad 0)), (1, .int a1), (2, .int a2)] rfl ?_
  intro p e s m args below meth c hC hnm
  rw [vr_runNew] at hV
  refine jj_aload_n (pc2 := 1) hC dX11_runNew_0 rfl 0 rfl rfl ?_
  refine jj_aload_n (pc2 := 2) hC dX11_runNew_1 rfl 0 rfl rfl ?_
  refine jj_iload_n (pc2 := 3) hC dX11_runNew_2 rfl 1 rfl rfl ?_
  refine jj_iload_n (pc2 := 4) hC dX11_runNew_3 rfl 2 rfl rfl ?_
  refine jj_aload_n (pc2 := 5) hC dX11_runNew_4 rfl 0 rfl rfl ?_
  refine rg_12 (pc2 := 8) hC hi_X11_runNew_X11 lk_X11_runNew_1 dX11_runNew_5 rfl ?_
  refine jj_cVI (pc2 := 11) (wd := wr_d Y X cs ad) (g := g0) (rest := [.ref (ad 0)]) hC (Y.length + 0) (jx_at (V := wr_W cs ad g0) rfl) rfl rfl (cr_works_12 l D cs Y X ad a1 a2 g0 _ hV) (cwV 3 hC.1.2.2.2.2 gX11_runNew_X11_works rfl rfl rfl (by decide +kernel) ⟨by decide, by decide⟩) rfl (Nat.le_of_ble_eq_true rfl) _ rfl dX11_runNew_8 ⟨Nat.zero_le _, Nat.zero_le _⟩ rfl (fun r1 g2 hV => ?_)
  refine rp_23 (pc2 := 14) hC hi_X11_runNew_X11 lk_X11_runNew_2 hV.1 dX11_runNew_11 rfl (fun g3 eg3 => ?_)
  have hV := hV.2 g3 eg3
  refine jj_aload_n (pc2 := 15) hC dX11_runNew_14 rfl 0 rfl rfl ?_
  refine rg_23 (pc2 := 18) hC hi_X11_runNew_X11 lk_X11_runNew_2 dX11_runNew_15 rfl ?_
  refine jj_if_ne (pc2 := 21) hC 24 dX11_runNew_18 (by decide) rfl (fun h4 => ?_) (fun h4 => ?_)
  · have hV := hV.1 h4
    refine jj_aload_n (pc2 := 25) hC dX11_runNew_24 rfl 0 rfl rfl ?_
    refine rg_30 (pc2 := 28) hC hi_X11_runNew_X11 lk_X11_runNew_4 dX11_runNew_25 rfl ?_
    refine jj_aload_n (pc2 := 29) hC dX11_runNew_28 rfl 0 rfl rfl ?_
    refine rg_6 (pc2 := 32) hC hi_X11_runNew_X11 lk_X11_runNew_5 dX11_runNew_29 rfl ?_
    refine jj_iload_n (pc2 := 33) hC dX11_runNew_32 rfl 1 rfl rfl ?_
    refine ra_6 (pc2 := 34) hC hV.1 dX11_runNew_33 rfl ?_
    have hV := hV.2
    refine ra_30 (pc2 := 35) hC hV.1 dX11_runNew_34 rfl ?_
    have hV := hV.2
    refine jj_topi (fun y5 ey5 => ?_)
    have hV := hV y5 ey5
    refine jj_istore_n (pc2 := 36) hC [(3, .int y5), (0, .ref (ad 0)), (1, .int a1), (2, .int a2)] dX11_runNew_35 rfl (by decide) rfl rfl ?_
    refine jj_iconst (pc2 := 37) hC 0 dX11_runNew_36 (by decide) rfl ?_
    refine jj_istore (pc2 := 39) hC [(4, .int 0), (3, .int y5), (0, .ref (ad 0)), (1, .int a1), (2, .int a2)] dX11_runNew_37 (by decide) rfl rfl ?_
    refine jj_iconst (pc2 := 40) hC 0 dX11_runNew_39 (by decide) rfl ?_
    refine jj_istore (pc2 := 42) hC [(5, .int 0), (4, .int 0), (3, .int y5), (0, .ref (ad 0)), (1, .int a1), (2, .int a2)] dX11_runNew_40 (by decide) rfl rfl ?_
    obtain ⟨n34, hV⟩ := hV
    refine jj_sub (lv2 := [(0, .ref (ad 0)), (3, .int y5), (4, .int 0), (5, .int 0)]) [3, 2, 1, 0] rfl (ar_runNew_42 hC y5 g3 Post _ (fun y10 hV => ?_) n34 0 0 hV)
    refine jj_iload (pc2 := 93) hC dX11_runNew_91 2 rfl rfl ?_
    refine jj_if_le (pc2 := 96) hC 129 dX11_runNew_93 (by decide) rfl (fun h11 => ?_) (fun h11 => ?_)
    · have hV := hV.1 h11
      refine jj_iconst (pc2 := 130) hC 0 dX11_runNew_129 (by decide) rfl ?_
      refine jj_istore (pc2 := 132) hC [(5, .int 0), (0, .ref (ad 0)), (3, .int y5), (4, .int y10)] dX11_runNew_130 (by decide) rfl rfl ?_
      obtain ⟨n25, hV⟩ := hV
      refine jj_sub (lv2 := [(0, .ref (ad 0)), (3, .int y5), (5, .int 0)]) [1, 2, 0] rfl (ar_runNew_132 hC y5 Post _ (fun g23 hV => ?_) n25 0 g3 hV)
      refine jj_aload_n (pc2 := 265) hC dX11_runNew_264 rfl 0 rfl rfl ?_
      refine jj_dup (pc2 := 266) hC dX11_runNew_265 rfl rfl ?_
      refine rg_29 (pc2 := 269) hC hi_X11_runNew_X11 lk_X11_runNew_16 dX11_runNew_266 rfl ?_
      refine jj_iconst (pc2 := 270) hC 1 dX11_runNew_269 (by decide) rfl ?_
      refine jj_iadd (pc2 := 271) hC dX11_runNew_270 rfl ?_
      refine rp_29 (pc2 := 274) hC hi_X11_runNew_X11 lk_X11_runNew_16 dX11_runNew_271 rfl (fun g24 eg24 => ?_)
      have hV := hV g24 eg24
      refine jj_aload_n (pc2 := 275) hC dX11_runNew_274 rfl 0 rfl rfl ?_
      refine rg_22 (pc2 := 278) hC hi_X11_runNew_X11 lk_X11_runNew_17 dX11_runNew_275 rfl ?_
      exact jj_iret hC dX11_runNew_278 hV
    · have hV := hV.2 h11
      refine jj_aload_n (pc2 := 97) hC dX11_runNew_96 rfl 0 rfl rfl ?_
      refine jj_cVIp (pc2 := 100) (wd := wr_d Y X cs ad) (g := g3) (rest := []) hC (Y.length + 0) (jx_at (V := wr_W cs ad g3) rfl) rfl rfl (cr_waitingNow l D cs Y X ad  g3 _ hV) (cwV 0 hC.1.2.2.2.2 gX11_runNew_X11_waitingNow rfl rfl rfl (by decide +kernel) ⟨by decide, by decide⟩) rfl (Nat.le_of_ble_eq_true rfl) _ rfl dX11_runNew_97 ⟨Nat.zero_le _, Nat.zero_le _⟩ rfl (fun r26 hV => ?_)
      refine jj_iload (pc2 := 102) hC dX11_runNew_100 2 rfl rfl ?_
      refine jj_iadd (pc2 := 103) hC dX11_runNew_102 rfl ?_
      refine jj_bipush (pc2 := 105) hC 40 dX11_runNew_103 (by decide) rfl ?_
      refine jj_icmp_gt (pc2 := 108) hC 121 dX11_runNew_105 (by decide) rfl (fun h27 => ?_) (fun h27 => ?_)
      · have hV := hV.1 h27
        refine jj_aload_n (pc2 := 122) hC dX11_runNew_121 rfl 0 rfl rfl ?_
        refine jj_iconst (pc2 := 123) hC 0 dX11_runNew_122 (by decide) rfl ?_
        refine rp_23 (pc2 := 126) hC hi_X11_runNew_X11 lk_X11_runNew_2 jj_nb0 dX11_runNew_123 rfl (fun g28 eg28 => ?_)
        have hV := hV g28 eg28
        refine jj_ldc (pc2 := 128) hC lk_X11_runNew_3 dX11_runNew_126 rfl ?_
        exact jj_iret hC dX11_runNew_128 hV
      · have hV := hV.2 h27
        refine jj_aload_n (pc2 := 109) hC dX11_runNew_108 rfl 0 rfl rfl ?_
        refine rg_40 (pc2 := 112) hC hi_X11_runNew_X11 lk_X11_runNew_9 dX11_runNew_109 rfl ?_
        refine jj_iload (pc2 := 114) hC dX11_runNew_112 2 rfl rfl ?_
        refine jj_iadd (pc2 := 115) hC dX11_runNew_114 rfl ?_
        refine jj_sipush (pc2 := 118) hC 2000 dX11_runNew_115 (by decide) rfl ?_
        refine jj_icmp_le (pc2 := 121) hC 129 dX11_runNew_118 (by decide) rfl (fun h29 => ?_) (fun h29 => ?_)
        · have hV := hV.1 h29
          refine jj_iconst (pc2 := 130) hC 0 dX11_runNew_129 (by decide) rfl ?_
          refine jj_istore (pc2 := 132) hC [(5, .int 0), (0, .ref (ad 0)), (3, .int y5), (4, .int y10)] dX11_runNew_130 (by decide) rfl rfl ?_
          obtain ⟨n32, hV⟩ := hV
          refine jj_sub (lv2 := [(0, .ref (ad 0)), (3, .int y5), (5, .int 0)]) [1, 2, 0] rfl (ar_runNew_132 hC y5 Post _ (fun g30 hV => ?_) n32 0 g3 hV)
          refine jj_aload_n (pc2 := 265) hC dX11_runNew_264 rfl 0 rfl rfl ?_
          refine jj_dup (pc2 := 266) hC dX11_runNew_265 rfl rfl ?_
          refine rg_29 (pc2 := 269) hC hi_X11_runNew_X11 lk_X11_runNew_16 dX11_runNew_266 rfl ?_
          refine jj_iconst (pc2 := 270) hC 1 dX11_runNew_269 (by decide) rfl ?_
          refine jj_iadd (pc2 := 271) hC dX11_runNew_270 rfl ?_
          refine rp_29 (pc2 := 274) hC hi_X11_runNew_X11 lk_X11_runNew_16 dX11_runNew_271 rfl (fun g31 eg31 => ?_)
          have hV := hV g31 eg31
          refine jj_aload_n (pc2 := 275) hC dX11_runNew_274 rfl 0 rfl rfl ?_
          refine rg_22 (pc2 := 278) hC hi_X11_runNew_X11 lk_X11_runNew_17 dX11_runNew_275 rfl ?_
          exact jj_iret hC dX11_runNew_278 hV
        · have hV := hV.2 h29
          refine jj_aload_n (pc2 := 122) hC dX11_runNew_121 rfl 0 rfl rfl ?_
          refine jj_iconst (pc2 := 123) hC 0 dX11_runNew_122 (by decide) rfl ?_
          refine rp_23 (pc2 := 126) hC hi_X11_runNew_X11 lk_X11_runNew_2 jj_nb0 dX11_runNew_123 rfl (fun g33 eg33 => ?_)
          have hV := hV g33 eg33
          refine jj_ldc (pc2 := 128) hC lk_X11_runNew_3 dX11_runNew_126 rfl ?_
          exact jj_iret hC dX11_runNew_128 hV
  · have hV := hV.2 h4
    refine jj_ldc (pc2 := 23) hC lk_X11_runNew_3 dX11_runNew_21 rfl ?_
    exact jj_iret hC dX11_runNew_23 hV
abbrev rm_X11_act : Room := { frames := 3, cells := 0, slots := 0, locals := 81 }
def vr_act (a1 : Int32) (a2 : Int32) (g0 : jm_M) (Post : Int32 → jm_M → Prop) : Prop := vr_isRoutine a1 g0 (fun (r1 : Int32) => ((r1 = 0) → (Post (-1) g0)) ∧ ((¬ r1 = 0) → (vr_runNew a1 a2 g0 (fun (r3 : Int32) (g4 : jm_M) => Post r3 g4))))
set_option maxHeartbeats 4000000 in
set_option maxRecDepth 100000 in
theorem cr_act (l : Launch) (D : va_G) (cs : Nat → ClassId) (Y X : va_W) (ad : Nat → Nat) (a1 : Int32) (a2 : Int32) (g0 : jm_M) (Post : Int32 → jm_M → Prop) (hV : vr_act a1 a2 g0 Post) : JI (wr_d Y X cs ad) D vwCl (jt_tys cs) l yX11_act wsX11_act rm_X11_act 0 0 [.ref (ad 0), .int a1, .int a2] g0 Post := by
  refine jj_metI (cc := cX11_act) (nL := 3) (ret := (some .int)) (by decide) rfl (Nat.le_of_ble_eq_true rfl) [(0, .ref (ad 0)), (1, .int a1), (2, .int a2)] rfl ?_
  intro p e s m args below meth c hC hnm
  rw [vr_act] at hV
  refine jj_aload_n (pc2 := 1) hC dX11_act_0 rfl 0 rfl rfl ?_
  refine jj_iload_n (pc2 := 2) hC dX11_act_1 rfl 1 rfl rfl ?_
  refine jj_cVIp (pc2 := 5) (wd := wr_d Y X cs ad) (g := g0) (rest := []) hC (Y.length + 0) (jx_at (V := wr_W cs ad g0) rfl) rfl rfl (cr_isRoutine l D cs Y X ad a1 g0 _ hV) (cwV 1 hC.1.2.2.2.2 gX11_act_X11_isRoutine rfl rfl rfl (by decide +kernel) ⟨by decide, by decide⟩) rfl (Nat.le_of_ble_eq_true rfl) _ rfl dX11_act_2 ⟨Nat.zero_le _, Nat.zero_le _⟩ rfl (fun r1 hV => ?_)
  refine jj_if_eq (pc2 := 8) hC 17 dX11_act_5 (by decide) rfl (fun h2 => ?_) (fun h2 => ?_)
  · have hV := hV.1 h2
    refine jj_iconst (pc2 := 18) hC (-1) dX11_act_17 (by decide) rfl ?_
    exact jj_iret hC dX11_act_18 hV
  · have hV := hV.2 h2
    refine jj_aload_n (pc2 := 9) hC dX11_act_8 rfl 0 rfl rfl ?_
    refine jj_iload_n (pc2 := 10) hC dX11_act_9 rfl 1 rfl rfl ?_
    refine jj_iload_n (pc2 := 11) hC dX11_act_10 rfl 2 rfl rfl ?_
    refine jj_cVI (pc2 := 14) (wd := wr_d Y X cs ad) (g := g0) (rest := []) hC (Y.length + 0) (jx_at (V := wr_W cs ad g0) rfl) rfl rfl (cr_runNew l D cs Y X ad a1 a2 g0 _ hV) (cwV 2 hC.1.2.2.2.2 gX11_act_X11_runNew rfl rfl rfl (by decide +kernel) ⟨by decide, by decide⟩) rfl (Nat.le_of_ble_eq_true rfl) _ rfl dX11_act_11 ⟨Nat.zero_le _, Nat.zero_le _⟩ rfl (fun r3 g4 hV => ?_)
    refine jj_goto hC 18 dX11_act_14 (by decide) ?_
    exact jj_iret hC dX11_act_18 hV
theorem hi_X11_deliver_X11 : ∀ w ∈ u_ws RX11 TX11 63, w ∈ wsX11_deliver := fun _ h => List.mem_cons_of_mem _ (List.mem_append_right _ h)
theorem lk_X11_deliver_5 : Cond.fieldLink RX11 101 "PartedHouseModel" "letterSays" "[I" ∈ wsX11_deliver := List.mem_of_getElem? (i := 5) rfl
theorem lk_X11_deliver_4 : Cond.fieldLink RX11 98 "PartedHouseModel" "letterCell" "[I" ∈ wsX11_deliver := List.mem_of_getElem? (i := 4) rfl
theorem lk_X11_deliver_3 : Cond.fieldLink RX11 34 "PartedHouseModel" "fresh" "[I" ∈ wsX11_deliver := List.mem_of_getElem? (i := 3) rfl
theorem lk_X11_deliver_2 : Cond.fieldLink RX11 110 "PartedHouseModel" "waits" "[Z" ∈ wsX11_deliver := List.mem_of_getElem? (i := 2) rfl
theorem lk_X11_deliver_1 : Cond.fieldLink RX11 242 "PartedHouseModel" "sent" "I" ∈ wsX11_deliver := List.mem_of_getElem? (i := 1) rfl
abbrev rm_X11_deliver : Room := { frames := 1, cells := 0, slots := 0, locals := 22 }
def vr_deliver (a1 : Int32) (g0 : jm_M) (Post : Int32 → jm_M → Prop) : Prop := vr_in a1 0 ((g0 40 0) - 1) g0 (fun (r1 : Int32) => ((¬ r1 = 0) → ((vp_in a1 2000) ∧ (((¬ (g0 45 a1.toNatClampNeg) = 0) → ((vp_in a1 2000) ∧ (∀ g4 : jm_M, g4 = jm_a g0 45 a1 0 → ((vp_in a1 2000) ∧ ((vp_in a1 2000) ∧ ((vp_in (g4 41 a1.toNatClampNeg) 128) ∧ (∀ g5 : jm_M, g5 = jm_a g4 12 (g4 41 a1.toNatClampNeg) (g4 42 a1.toNatClampNeg) → (Post 1 g5)))))))) ∧ (((g0 45 a1.toNatClampNeg) = 0) → (Post 0 g0))))) ∧ ((r1 = 0) → (Post (-1) g0)))
set_option maxHeartbeats 4000000 in
set_option maxRecDepth 100000 in
theorem cr_deliver (l : Launch) (D : va_G) (cs : Nat → ClassId) (Y X : va_W) (ad : Nat → Nat) (a1 : Int32) (g0 : jm_M) (Post : Int32 → jm_M → Prop) (hV : vr_deliver a1 g0 Post) : JI (wr_d Y X cs ad) D vwCl (jt_tys cs) l yX11_deliver wsX11_deliver rm_X11_deliver 0 0 [.ref (ad 0), .int a1] g0 Post := by
  refine jj_metI (cc := cX11_deliver) (nL := 2) (ret := (some .int)) (by decide) rfl (Nat.le_of_ble_eq_true rfl) [(0, .ref (ad 0)), (1, .int a1)] rfl ?_
  intro p e s m args below meth c hC hnm
  rw [vr_deliver] at hV
  refine jj_iload_n (pc2 := 1) hC dX11_deliver_0 rfl 1 rfl rfl ?_
  refine jj_iconst (pc2 := 2) hC 0 dX11_deliver_1 (by decide) rfl ?_
  refine jj_aload_n (pc2 := 3) hC dX11_deliver_2 rfl 0 rfl rfl ?_
  refine rg_40 (pc2 := 6) hC hi_X11_deliver_X11 lk_X11_deliver_1 dX11_deliver_3 rfl ?_
  refine jj_iconst (pc2 := 7) hC 1 dX11_deliver_6 (by decide) rfl ?_
  refine jj_isub (pc2 := 8) hC dX11_deliver_7 rfl ?_
  refine jj_cSIp (pc2 := 11) (wd := wr_d Y X cs ad) (g := g0) (rest := []) hC (cr_in l D cs Y X ad a1 0 ((g0 40 0) - 1) g0 _ hV) (va_cwS 3 hC.1.2.2.2.2 gX11_deliver_X11_in rfl rfl rfl (by decide +kernel) ⟨by decide, by decide⟩) rfl (Nat.le_of_ble_eq_true rfl) _ rfl dX11_deliver_8 ⟨Nat.zero_le _, Nat.zero_le _⟩ rfl (fun r1 hV => ?_)
  refine jj_if_ne (pc2 := 14) hC 16 dX11_deliver_11 (by decide) rfl (fun h2 => ?_) (fun h2 => ?_)
  · have hV := hV.1 h2
    refine jj_aload_n (pc2 := 17) hC dX11_deliver_16 rfl 0 rfl rfl ?_
    refine rg_45 (pc2 := 20) hC hi_X11_deliver_X11 lk_X11_deliver_2 dX11_deliver_17 rfl ?_
    refine jj_iload_n (pc2 := 21) hC dX11_deliver_20 rfl 1 rfl rfl ?_
    refine ra_45 (pc2 := 22) hC hV.1 dX11_deliver_21 rfl ?_
    have hV := hV.2
    refine jj_if_ne (pc2 := 25) hC 27 dX11_deliver_22 (by decide) rfl (fun h3 => ?_) (fun h3 => ?_)
    · have hV := hV.1 h3
      refine jj_aload_n (pc2 := 28) hC dX11_deliver_27 rfl 0 rfl rfl ?_
      refine rg_45 (pc2 := 31) hC hi_X11_deliver_X11 lk_X11_deliver_2 dX11_deliver_28 rfl ?_
      refine jj_iload_n (pc2 := 32) hC dX11_deliver_31 rfl 1 rfl rfl ?_
      refine jj_iconst (pc2 := 33) hC 0 dX11_deliver_32 (by decide) rfl ?_
      refine rs_45 (pc2 := 34) hC hV.1 jj_nb0 dX11_deliver_33 rfl (fun g4 eg4 => ?_)
      have hV := hV.2 g4 eg4
      refine jj_aload_n (pc2 := 35) hC dX11_deliver_34 rfl 0 rfl rfl ?_
      refine rg_12 (pc2 := 38) hC hi_X11_deliver_X11 lk_X11_deliver_3 dX11_deliver_35 rfl ?_
      refine jj_aload_n (pc2 := 39) hC dX11_deliver_38 rfl 0 rfl rfl ?_
      refine rg_41 (pc2 := 42) hC hi_X11_deliver_X11 lk_X11_deliver_4 dX11_deliver_39 rfl ?_
      refine jj_iload_n (pc2 := 43) hC dX11_deliver_42 rfl 1 rfl rfl ?_
      refine ra_41 (pc2 := 44) hC hV.1 dX11_deliver_43 rfl ?_
      have hV := hV.2
      refine jj_aload_n (pc2 := 45) hC dX11_deliver_44 rfl 0 rfl rfl ?_
      refine rg_42 (pc2 := 48) hC hi_X11_deliver_X11 lk_X11_deliver_5 dX11_deliver_45 rfl ?_
      refine jj_iload_n (pc2 := 49) hC dX11_deliver_48 rfl 1 rfl rfl ?_
      refine ra_42 (pc2 := 50) hC hV.1 dX11_deliver_49 rfl ?_
      have hV := hV.2
      refine rs_12 (pc2 := 51) hC hV.1 dX11_deliver_50 rfl (fun g5 eg5 => ?_)
      have hV := hV.2 g5 eg5
      refine jj_iconst (pc2 := 52) hC 1 dX11_deliver_51 (by decide) rfl ?_
      exact jj_iret hC dX11_deliver_52 hV
    · have hV := hV.2 h3
      refine jj_iconst (pc2 := 26) hC 0 dX11_deliver_25 (by decide) rfl ?_
      exact jj_iret hC dX11_deliver_26 hV
  · have hV := hV.2 h2
    refine jj_iconst (pc2 := 15) hC (-1) dX11_deliver_14 (by decide) rfl ?_
    exact jj_iret hC dX11_deliver_15 hV
