theorem hi_X3_add_X3 : ∀ w ∈ u_ws RX3 TX3 3, w ∈ wsX3_add := fun _ h => List.mem_cons_of_mem _ (List.mem_append_right _ h)
theorem lk_X3_add_2 : Cond.fieldLink RX3 9 "PartedHouse$HomeSets" "masks" "[I" ∈ wsX3_add := List.mem_of_getElem? (i := 2) rfl
theorem lk_X3_add_1 : Cond.fieldLink RX3 16 "PartedHouse$HomeSets" "size" "I" ∈ wsX3_add := List.mem_of_getElem? (i := 1) rfl
theorem lk_X3_add_3 : Cond.fieldLink RX3 13 "PartedHouse$HomeSets" "acts" "[I" ∈ wsX3_add := List.mem_of_getElem? (i := 3) rfl
abbrev rm_X3_add (MC MS : Nat) : Room := { frames := 2, cells := MC, slots := MS, locals := 62 }
def vc_X3_add_2 (MC : Nat) (MS : Nat) (x1 : Int32) (g : cm_M) (K20 : Int32 → Prop) (K37 : Prop) (Post : cm_M → Prop) : Nat → Int32 → Prop
  | 0, _ => False
  | f + 1, x2 => (((g.2.2 36 0) ≤ x2) → (K37)) ∧ ((¬ (g.2.2 36 0) ≤ x2) → ((vp_in x2 (g.1.2.1 0)) ∧ (((¬ (g.2.2 34 x2.toNatClampNeg) = x1) → (vc_X3_add_2 MC MS x1 g K20 K37 Post f (x2 + 1))) ∧ (((g.2.2 34 x2.toNatClampNeg) = x1) → (K20 x2)))))
def vc_X3_add (MC : Nat) (MS : Nat) (a1 : Int32) (g0 : cm_M) (Post : cm_M → Prop) : Prop := ∃ n20 : Nat, vc_X3_add_2 MC MS a1 g0 (fun (y3 : Int32) => (vp_in y3 (g0.1.2.1 1)) ∧ ((vp_in y3 (g0.1.2.1 1)) ∧ (∀ g4 : cm_M, g4 = cm_a g0 35 y3 ((g0.2.2 35 y3.toNatClampNeg) + 1) → (Post g4)))) ((((g0.2.2 36 0) < (Int32.ofNat (g0.1.2.1 0))) → ((vp_in (g0.2.2 36 0) (g0.1.2.1 0)) ∧ (∀ g6 : cm_M, g6 = cm_a g0 34 (g0.2.2 36 0) a1 → ((vp_in (g6.2.2 36 0) (g6.1.2.1 1)) ∧ (∀ g7 : cm_M, g7 = cm_a g6 35 (g6.2.2 36 0) 1 → (∀ g8 : cm_M, g8 = cm_s g7 36 ((g7.2.2 36 0) + 1) → (Post g8))))))) ∧ ((¬ (g0.2.2 36 0) < (Int32.ofNat (g0.1.2.1 0))) → (∀ y9 : Int32, y9 = (g0.2.2 36 0) * 2 → ((¬ y9 < 0) ∧ (¬ y9 = Int32.ofNat (g0.1.2.1 0)) ∧ ((g0.1.2.1 0) ≤ y9.toNatClampNeg) ∧ (y9.toNatClampNeg * 4 ≤ 536870912) ∧ (0 + 1 ≤ MC) ∧ (0 + y9.toNatClampNeg ≤ MS) ∧ (∀ q10 : Nat, ∀ g11 : cm_M, g11 = cm_grow g0 0 34 q10 (y9.toNatClampNeg) (va_cpy (g0.2.2 34) (fun _ => 0) 0 0 (g0.1.2.1 0)) → (∀ y12 : Int32, y12 = (g11.2.2 36 0) * 2 → ((¬ y12 < 0) ∧ (¬ y12 = Int32.ofNat (g11.1.2.1 1)) ∧ ((g11.1.2.1 1) ≤ y12.toNatClampNeg) ∧ (y12.toNatClampNeg * 4 ≤ 536870912) ∧ ((0 + 1) + 1 ≤ MC) ∧ ((0 + y9.toNatClampNeg) + y12.toNatClampNeg ≤ MS) ∧ (∀ q13 : Nat, ∀ g14 : cm_M, g14 = cm_grow g11 1 35 q13 (y12.toNatClampNeg) (va_cpy (g11.2.2 35) (fun _ => 0) 0 0 (g11.1.2.1 1)) → ((vp_in (g14.2.2 36 0) (g14.1.2.1 0)) ∧ (∀ g15 : cm_M, g15 = cm_a g14 34 (g14.2.2 36 0) a1 → ((vp_in (g15.2.2 36 0) (g15.1.2.1 1)) ∧ (∀ g16 : cm_M, g16 = cm_a g15 35 (g15.2.2 36 0) 1 → (∀ g17 : cm_M, g17 = cm_s g16 36 ((g16.2.2 36 0) + 1) → (((0 + 1) + 1 ≤ MC) ∧ ((0 + y9.toNatClampNeg) + y12.toNatClampNeg ≤ MS) ∧ (Post g17))))))))))))))) Post n20 0
set_option maxHeartbeats 4000000 in
set_option maxRecDepth 100000 in
theorem ac_X3_add_2 {p : Program} {l : Launch} {e : Env} {s : State} {m : MethodId} {args : Array Value} {below : List Frame} {meth : Method} {c : Code} {D : va_G} {cs : Nat → ClassId} {Y X : va_W} {ad : Nat → Nat} {g0 : cm_M} {MC MS : Nat} (hC : JC p s m args meth c D vwCl (va_A (wc_d Y X cs ad g0) s.heap.size) 3 cX3_add none wsX3_add RX3 (jt_tys cs)) (x1 : Int32) (g : cm_M) (Post : cm_M → Prop) (K20 : Int32 → Prop) (hK20 : ∀ (z2 : Int32) , K20 z2 → JJ (wc_d Y X cs ad) p l e (rm_X3_add MC MS) s m args below meth c D vwCl (va_A (wc_d Y X cs ad g0) s.heap.size) 3 0 0 (MQ below (jj_QV (wc_d Y X cs ad) D vwCl (jt_tys cs) g0 s.heap.size Post) args s MC MS (va_A (wc_d Y X cs ad g0) s.heap.size)) 20 [(0, .ref (ad 4)), (2, .int z2)] [] g) (K37 : Prop) (hK37 : K37 → JJ (wc_d Y X cs ad) p l e (rm_X3_add MC MS) s m args below meth c D vwCl (va_A (wc_d Y X cs ad g0) s.heap.size) 3 0 0 (MQ below (jj_QV (wc_d Y X cs ad) D vwCl (jt_tys cs) g0 s.heap.size Post) args s MC MS (va_A (wc_d Y X cs ad g0) s.heap.size)) 37 [(0, .ref (ad 4)), (1, .int x1)] [] g) : ∀ (f : Nat) (x2 : Int32), vc_X3_add_2 MC MS x1 g K20 K37 Post f x2 → JJ (wc_d Y X cs ad) p l e (rm_X3_add MC MS) s m args below meth c D vwCl (va_A (wc_d Y X cs ad g0) s.heap.size) 3 0 0 (MQ below (jj_QV (wc_d Y X cs ad) D vwCl (jt_tys cs) g0 s.heap.size Post) args s MC MS (va_A (wc_d Y X cs ad g0) s.heap.size)) 2 [(0, .ref (ad 4)), (1, .int x1), (2, .int x2)] [] g := by
  intro f
  induction f with
  | zero => intro x2 hV; exact hV.elim
  | succ f ih =>
    intro x2 hV
    rw [vc_X3_add_2] at hV
    refine jj_iload_n (pc2 := 3) hC dX3_add_2 rfl 2 rfl rfl ?_
    refine jj_aload_n (pc2 := 4) hC dX3_add_3 rfl 0 rfl rfl ?_
    refine cg_S_size (pc2 := 7) hC hi_X3_add_X3 lk_X3_add_1 dX3_add_4 rfl ?_
    refine jj_icmp_ge (pc2 := 10) hC 37 dX3_add_7 (by decide) rfl (fun h1 => ?_) (fun h1 => ?_)
    · have hV := hV.1 h1
      exact jj_sub (lv2 := [(0, .ref (ad 4)), (1, .int x1)]) [0, 1] rfl (hK37  hV)
    · have hV := hV.2 h1
      refine jj_aload_n (pc2 := 11) hC dX3_add_10 rfl 0 rfl rfl ?_
      refine cg_S_masks (pc2 := 14) hC hi_X3_add_X3 lk_X3_add_2 dX3_add_11 rfl ?_
      refine jj_iload_n (pc2 := 15) hC dX3_add_14 rfl 2 rfl rfl ?_
      refine cl_S_masks (pc2 := 16) hC hV.1 dX3_add_15 rfl ?_
      have hV := hV.2
      refine jj_iload_n (pc2 := 17) hC dX3_add_16 rfl 1 rfl rfl ?_
      refine jj_icmp_ne (pc2 := 20) hC 31 dX3_add_17 (by decide) rfl (fun h2 => ?_) (fun h2 => ?_)
      · have hV := hV.1 h2
        refine jj_iinc (pc2 := 34) hC (x2 + 1) [(2, .int (x2 + 1)), (0, .ref (ad 4)), (1, .int x1)] dX3_add_31 2 rfl rfl (by decide) rfl rfl ?_
        refine jj_goto hC 2 dX3_add_34 (by decide) ?_
        exact jj_sub (lv2 := [(0, .ref (ad 4)), (1, .int x1), (2, .int (x2 + 1))]) [1, 2, 0] rfl (ih (x2 + 1) hV)
      · have hV := hV.2 h2
        exact jj_sub (lv2 := [(0, .ref (ad 4)), (2, .int x2)]) [0, 2] rfl (hK20 x2 hV)
set_option maxHeartbeats 4000000 in
set_option maxRecDepth 100000 in
theorem kc_X3_add (l : Launch) (D : va_G) (cs : Nat → ClassId) (Y X : va_W) (ad : Nat → Nat) (MC : Nat) (MS : Nat) (a1 : Int32) (g0 : cm_M) (Post : cm_M → Prop) (hV : vc_X3_add MC MS a1 g0 Post) : JV (wc_d Y X cs ad) D vwCl (jt_tys cs) l yX3_add wsX3_add (rm_X3_add MC MS) MC MS [.ref (ad 4), .int a1] g0 Post := by
  refine jj_metV (cc := cX3_add) (nL := 3) (ret := none) (by decide) rfl (Nat.le_of_ble_eq_true rfl) [(0, .ref (ad 4)), (1, .int a1)] rfl ?_
  intro p e s m args below meth c hC hnm
  rw [vc_X3_add] at hV
  refine jj_iconst (pc2 := 1) hC 0 dX3_add_0 (by decide) rfl ?_
  refine jj_istore_n (pc2 := 2) hC [(2, .int 0), (0, .ref (ad 4)), (1, .int a1)] dX3_add_1 rfl (by decide) rfl rfl ?_
  obtain ⟨n20, hV⟩ := hV
  refine jj_sub (lv2 := [(0, .ref (ad 4)), (1, .int a1), (2, .int 0)]) [1, 2, 0] rfl (ac_X3_add_2 hC a1 g0 Post _ (fun y3 hV => ?_) _ (fun hV => ?_) n20 0 hV)
  · refine jj_aload_n (pc2 := 21) hC dX3_add_20 rfl 0 rfl rfl ?_
    refine cg_S_acts (pc2 := 24) hC hi_X3_add_X3 lk_X3_add_3 dX3_add_21 rfl ?_
    refine jj_iload_n (pc2 := 25) hC dX3_add_24 rfl 1 rfl rfl ?_
    refine jj_dup2 (pc2 := 26) hC dX3_add_25 rfl rfl rfl ?_
    refine cl_S_acts (pc2 := 27) hC hV.1 dX3_add_26 rfl ?_
    have hV := hV.2
    refine jj_iconst (pc2 := 28) hC 1 dX3_add_27 (by decide) rfl ?_
    refine jj_iadd (pc2 := 29) hC dX3_add_28 rfl ?_
    refine ct_S_acts (pc2 := 30) hC hV.1 dX3_add_29 rfl (fun g4 eg4 => ?_)
    have hV := hV.2 g4 eg4
    refine jj_widen (k := MC) (n := MS) (Nat.zero_le _) (Nat.zero_le _) ?_
    exact jj_vret hC dX3_add_30 hV
  · refine jj_aload_n (pc2 := 38) hC dX3_add_37 rfl 0 rfl rfl ?_
    refine cg_S_size (pc2 := 41) hC hi_X3_add_X3 lk_X3_add_1 dX3_add_38 rfl ?_
    refine jj_aload_n (pc2 := 42) hC dX3_add_41 rfl 0 rfl rfl ?_
    refine cg_S_masks (pc2 := 45) hC hi_X3_add_X3 lk_X3_add_2 dX3_add_42 rfl ?_
    refine jj_alen (pc2 := 46) (wd := wc_d Y X cs ad) (g := g0) hC (Y.length + 35) 0 (jx_at (V := wc_W cs ad g0) rfl) rfl dX3_add_45 rfl ?_
    refine jj_icmp_lt (pc2 := 49) hC 83 dX3_add_46 (by decide) rfl (fun h5 => ?_) (fun h5 => ?_)
    · have hV := hV.1 h5
      refine jj_aload_n (pc2 := 84) hC dX3_add_83 rfl 0 rfl rfl ?_
      refine cg_S_masks (pc2 := 87) hC hi_X3_add_X3 lk_X3_add_2 dX3_add_84 rfl ?_
      refine jj_aload_n (pc2 := 88) hC dX3_add_87 rfl 0 rfl rfl ?_
      refine cg_S_size (pc2 := 91) hC hi_X3_add_X3 lk_X3_add_1 dX3_add_88 rfl ?_
      refine jj_iload_n (pc2 := 92) hC dX3_add_91 rfl 1 rfl rfl ?_
      refine ct_S_masks (pc2 := 93) hC hV.1 dX3_add_92 rfl (fun g6 eg6 => ?_)
      have hV := hV.2 g6 eg6
      refine jj_aload_n (pc2 := 94) hC dX3_add_93 rfl 0 rfl rfl ?_
      refine cg_S_acts (pc2 := 97) hC hi_X3_add_X3 lk_X3_add_3 dX3_add_94 rfl ?_
      refine jj_aload_n (pc2 := 98) hC dX3_add_97 rfl 0 rfl rfl ?_
      refine cg_S_size (pc2 := 101) hC hi_X3_add_X3 lk_X3_add_1 dX3_add_98 rfl ?_
      refine jj_iconst (pc2 := 102) hC 1 dX3_add_101 (by decide) rfl ?_
      refine ct_S_acts (pc2 := 103) hC hV.1 dX3_add_102 rfl (fun g7 eg7 => ?_)
      have hV := hV.2 g7 eg7
      refine jj_aload_n (pc2 := 104) hC dX3_add_103 rfl 0 rfl rfl ?_
      refine jj_dup (pc2 := 105) hC dX3_add_104 rfl rfl ?_
      refine cg_S_size (pc2 := 108) hC hi_X3_add_X3 lk_X3_add_1 dX3_add_105 rfl ?_
      refine jj_iconst (pc2 := 109) hC 1 dX3_add_108 (by decide) rfl ?_
      refine jj_iadd (pc2 := 110) hC dX3_add_109 rfl ?_
      refine cp_S_size (pc2 := 113) hC hi_X3_add_X3 lk_X3_add_1 dX3_add_110 rfl (fun g8 eg8 => ?_)
      have hV := hV g8 eg8
      refine jj_widen (k := MC) (n := MS) (Nat.zero_le _) (Nat.zero_le _) ?_
      exact jj_vret hC dX3_add_113 hV
    · have hV := hV.2 h5
      refine jj_aload_n (pc2 := 50) hC dX3_add_49 rfl 0 rfl rfl ?_
      refine jj_aload_n (pc2 := 51) hC dX3_add_50 rfl 0 rfl rfl ?_
      refine cg_S_masks (pc2 := 54) hC hi_X3_add_X3 lk_X3_add_2 dX3_add_51 rfl ?_
      refine jj_aload_n (pc2 := 55) hC dX3_add_54 rfl 0 rfl rfl ?_
      refine cg_S_size (pc2 := 58) hC hi_X3_add_X3 lk_X3_add_1 dX3_add_55 rfl ?_
      refine jj_iconst (pc2 := 59) hC 2 dX3_add_58 (by decide) rfl ?_
      refine jj_imul (pc2 := 60) hC dX3_add_59 rfl ?_
      refine jj_topi (fun y9 ey9 => ?_)
      have hV := hV y9 ey9
      obtain ⟨c19a, c19b, c19c, c19d, c19e, c19f, hV⟩ := hV
      refine jf_copy (pc2 := 63) (rest := [.ref (ad 4)]) hC (Y.length + 35) (jx_at (V := wc_W cs ad g0) rfl) rfl c19a c19b c19c c19d (va_cwS 2 hC.1.2.2.2.2 gX3_add_J7_copyOf_59c91 rfl rfl rfl (by decide +kernel) ⟨by show 1 + 1 ≤ 2; omega, by show 8 + (3 + 11) + 40 ≤ 62; omega⟩) (Nat.le_of_ble_eq_true rfl) dX3_add_60 ⟨c19e, c19f⟩ rfl (fun q10 => ?_)
      have hV := hV q10
      refine cq_S_masks (pc2 := 66) hC hi_X3_add_X3 lk_X3_add_2 dX3_add_63 rfl (fun g11 eg11 => ?_)
      have hV := hV g11 eg11
      refine jj_aload_n (pc2 := 67) hC dX3_add_66 rfl 0 rfl rfl ?_
      refine jj_aload_n (pc2 := 68) hC dX3_add_67 rfl 0 rfl rfl ?_
      refine cg_S_acts (pc2 := 71) hC hi_X3_add_X3 lk_X3_add_3 dX3_add_68 rfl ?_
      refine jj_aload_n (pc2 := 72) hC dX3_add_71 rfl 0 rfl rfl ?_
      refine cg_S_size (pc2 := 75) hC hi_X3_add_X3 lk_X3_add_1 dX3_add_72 rfl ?_
      refine jj_iconst (pc2 := 76) hC 2 dX3_add_75 (by decide) rfl ?_
      refine jj_imul (pc2 := 77) hC dX3_add_76 rfl ?_
      refine jj_topi (fun y12 ey12 => ?_)
      have hV := hV y12 ey12
      obtain ⟨c18a, c18b, c18c, c18d, c18e, c18f, hV⟩ := hV
      refine jf_copy (pc2 := 80) (rest := [.ref (ad 4)]) hC (Y.length + 36) (jx_at (V := wc_W cs ad g11) rfl) rfl c18a c18b c18c c18d (va_cwS 2 hC.1.2.2.2.2 gX3_add_J7_copyOf_59c91 rfl rfl rfl (by decide +kernel) ⟨by show 1 + 1 ≤ 2; omega, by show 8 + (3 + 11) + 40 ≤ 62; omega⟩) (Nat.le_of_ble_eq_true rfl) dX3_add_77 ⟨c18e, c18f⟩ rfl (fun q13 => ?_)
      have hV := hV q13
      refine cq_S_acts (pc2 := 83) hC hi_X3_add_X3 lk_X3_add_3 dX3_add_80 rfl (fun g14 eg14 => ?_)
      have hV := hV g14 eg14
      refine jj_aload_n (pc2 := 84) hC dX3_add_83 rfl 0 rfl rfl ?_
      refine cg_S_masks (pc2 := 87) hC hi_X3_add_X3 lk_X3_add_2 dX3_add_84 rfl ?_
      refine jj_aload_n (pc2 := 88) hC dX3_add_87 rfl 0 rfl rfl ?_
      refine cg_S_size (pc2 := 91) hC hi_X3_add_X3 lk_X3_add_1 dX3_add_88 rfl ?_
      refine jj_iload_n (pc2 := 92) hC dX3_add_91 rfl 1 rfl rfl ?_
      refine ct_S_masks (pc2 := 93) hC hV.1 dX3_add_92 rfl (fun g15 eg15 => ?_)
      have hV := hV.2 g15 eg15
      refine jj_aload_n (pc2 := 94) hC dX3_add_93 rfl 0 rfl rfl ?_
      refine cg_S_acts (pc2 := 97) hC hi_X3_add_X3 lk_X3_add_3 dX3_add_94 rfl ?_
      refine jj_aload_n (pc2 := 98) hC dX3_add_97 rfl 0 rfl rfl ?_
      refine cg_S_size (pc2 := 101) hC hi_X3_add_X3 lk_X3_add_1 dX3_add_98 rfl ?_
      refine jj_iconst (pc2 := 102) hC 1 dX3_add_101 (by decide) rfl ?_
      refine ct_S_acts (pc2 := 103) hC hV.1 dX3_add_102 rfl (fun g16 eg16 => ?_)
      have hV := hV.2 g16 eg16
      refine jj_aload_n (pc2 := 104) hC dX3_add_103 rfl 0 rfl rfl ?_
      refine jj_dup (pc2 := 105) hC dX3_add_104 rfl rfl ?_
      refine cg_S_size (pc2 := 108) hC hi_X3_add_X3 lk_X3_add_1 dX3_add_105 rfl ?_
      refine jj_iconst (pc2 := 109) hC 1 dX3_add_108 (by decide) rfl ?_
      refine jj_iadd (pc2 := 110) hC dX3_add_109 rfl ?_
      refine cp_S_size (pc2 := 113) hC hi_X3_add_X3 lk_X3_add_1 dX3_add_110 rfl (fun g17 eg17 => ?_)
      have hV := hV g17 eg17
      obtain ⟨hb1, hb2, hV⟩ := hV
      refine jj_widen (k := MC) (n := MS) hb1 hb2 ?_
      exact jj_vret hC dX3_add_113 hV
theorem hi_X4_keepOld_X9 : ∀ w ∈ u_ws RX9 TX9 11, w ∈ wsX4_keepOld := fun _ h => List.mem_cons_of_mem _ (List.mem_append_left _ (List.mem_append_right _ h))
theorem lk_X4_keepOld_5 : Cond.fieldLink RX4 53 "PartedHouse$Text" "homes" "[I" ∈ wsX4_keepOld := List.mem_of_getElem? (i := 5) rfl
theorem hi_X4_keepOld_X0 : ∀ w ∈ u_ws RX0 TX0 10, w ∈ wsX4_keepOld := fun _ h => List.mem_cons_of_mem _ (List.mem_append_left _ (List.mem_append_left _ (List.mem_append_left _ (List.mem_append_right _ h))))
theorem lk_X4_keepOld_4 : Cond.fieldLink RX4 50 "PartedHouse$Act" "cells" "[I" ∈ wsX4_keepOld := List.mem_of_getElem? (i := 4) rfl
theorem hi_X4_keepOld_X4 : ∀ w ∈ u_ws RX4 TX4 11, w ∈ wsX4_keepOld := fun _ h => List.mem_cons_of_mem _ (List.mem_append_left _ (List.mem_append_left _ (List.mem_append_right _ h)))
theorem lk_X4_keepOld_3 : Cond.fieldLink RX4 9 "PartedHouse$Houses" "oldCells" "[I" ∈ wsX4_keepOld := List.mem_of_getElem? (i := 3) rfl
theorem lk_X4_keepOld_2 : Cond.fieldLink RX4 47 "PartedHouse$Act" "written" "[I" ∈ wsX4_keepOld := List.mem_of_getElem? (i := 2) rfl
theorem lk_X4_keepOld_1 : Cond.fieldLink RX4 41 "PartedHouse$Act" "writtenCount" "I" ∈ wsX4_keepOld := List.mem_of_getElem? (i := 1) rfl
theorem lk_X4_keepOld_8 : Cond.fieldLink RX4 61 "PartedHouse$Act" "ties" "[I" ∈ wsX4_keepOld := List.mem_of_getElem? (i := 8) rfl
theorem lk_X4_keepOld_7 : Cond.fieldLink RX4 21 "PartedHouse$Houses" "counts" "[I" ∈ wsX4_keepOld := List.mem_of_getElem? (i := 7) rfl
theorem lk_X4_keepOld_6 : Cond.fieldLink RX4 58 "PartedHouse$Act" "tieCount" "I" ∈ wsX4_keepOld := List.mem_of_getElem? (i := 6) rfl
theorem lk_X4_keepOld_10 : Cond.fieldLink RX4 68 "PartedHouse$Houses" "oldActs" "I" ∈ wsX4_keepOld := List.mem_of_getElem? (i := 10) rfl
theorem lk_X4_keepOld_9 : Cond.fieldLink RX4 27 "PartedHouse$Houses" "homeSets" "LPartedHouse$HomeSets;" ∈ wsX4_keepOld := List.mem_of_getElem? (i := 9) rfl
abbrev rm_X4_keepOld (MC MS : Nat) : Room := { frames := 3, cells := MC, slots := MS, locals := 84 }
def vc_X4_keepOld_5 (MC : Nat) (MS : Nat) (K58 : Int32 → cm_M → Prop) (Post : cm_M → Prop) : Nat → Int32 → Int32 → cm_M → Prop
  | 0, _, _, _ => False
  | f + 1, x3, x4, g => (((g.2.2 21 0) ≤ x4) → (K58 x3 g)) ∧ ((¬ (g.2.2 21 0) ≤ x4) → ((vp_in x4 128) ∧ (∀ y2 : Int32, y2 = g.2.2 17 x4.toNatClampNeg → ((vp_in y2 128) ∧ ((vp_in y2 128) ∧ (∀ g3 : cm_M, g3 = cm_a g 25 y2 (g.2.2 15 y2.toNatClampNeg) → ((vp_in (y2 / 8) 16) ∧ (∀ y4 : Int32, y4 = x3 ||| ((1 : Int32) <<< ((g3.2.2 5 (y2 / 8).toNatClampNeg) &&& 31)) → (vc_X4_keepOld_5 MC MS K58 Post f y4 (x4 + 1) g3)))))))))
def vc_X4_keepOld_61 (MC : Nat) (MS : Nat) (x3 : Int32) (K92 : cm_M → Prop) (Post : cm_M → Prop) : Nat → Int32 → cm_M → Prop
  | 0, _, _ => False
  | f + 1, x4, g => (((g.2.2 22 0) ≤ x4) → (K92 g)) ∧ ((¬ (g.2.2 22 0) ≤ x4) → ((vp_in x4 300) ∧ ((vp_in (g.2.2 18 x4.toNatClampNeg) 420) ∧ ((vp_in (g.2.2 18 x4.toNatClampNeg) 420) ∧ (∀ g8 : cm_M, g8 = cm_a g 28 (g.2.2 18 x4.toNatClampNeg) ((g.2.2 28 (g.2.2 18 x4.toNatClampNeg).toNatClampNeg) + 1) → (vc_X4_keepOld_61 MC MS x3 K92 Post f (x4 + 1) g8))))))
def vc_X4_keepOld (MC : Nat) (MS : Nat) (g0 : cm_M) (Post : cm_M → Prop) : Prop := ∃ n16 : Nat, vc_X4_keepOld_5 MC MS (fun (y5 : Int32) (g6 : cm_M) => ∃ n15 : Nat, vc_X4_keepOld_61 MC MS y5 (fun (g9 : cm_M) => ∃ mc12 ms13 : Nat, (0 + mc12 ≤ MC) ∧ (0 + ms13 ≤ MS) ∧ (vc_X3_add mc12 ms13 y5 g9 (fun (g11 : cm_M) => ∀ g14 : cm_M, g14 = cm_s g11 31 ((g11.2.2 31 0) + 1) → ((0 + mc12 ≤ MC) ∧ (0 + ms13 ≤ MS) ∧ (Post g14))))) Post n15 0 g6) Post n16 0 0 g0
set_option maxHeartbeats 4000000 in
set_option maxRecDepth 100000 in
theorem ac_X4_keepOld_5 {p : Program} {l : Launch} {e : Env} {s : State} {m : MethodId} {args : Array Value} {below : List Frame} {meth : Method} {c : Code} {D : va_G} {cs : Nat → ClassId} {Y X : va_W} {ad : Nat → Nat} {g0 : cm_M} {MC MS : Nat} (hC : JC p s m args meth c D vwCl (va_A (wc_d Y X cs ad g0) s.heap.size) 6 cX4_keepOld none wsX4_keepOld RX4 (jt_tys cs)) (Post : cm_M → Prop) (K58 : Int32 → cm_M → Prop) (hK58 : ∀ (z3 : Int32) (g : cm_M) , K58 z3 g → JJ (wc_d Y X cs ad) p l e (rm_X4_keepOld MC MS) s m args below meth c D vwCl (va_A (wc_d Y X cs ad g0) s.heap.size) 6 0 0 (MQ below (jj_QV (wc_d Y X cs ad) D vwCl (jt_tys cs) g0 s.heap.size Post) args s MC MS (va_A (wc_d Y X cs ad g0) s.heap.size)) 58 [(0, .ref (ad 3)), (1, .ref (ad 2)), (3, .int z3)] [] g) : ∀ (f : Nat) (x3 : Int32) (x4 : Int32) (g : cm_M), vc_X4_keepOld_5 MC MS K58 Post f x3 x4 g → JJ (wc_d Y X cs ad) p l e (rm_X4_keepOld MC MS) s m args below meth c D vwCl (va_A (wc_d Y X cs ad g0) s.heap.size) 6 0 0 (MQ below (jj_QV (wc_d Y X cs ad) D vwCl (jt_tys cs) g0 s.heap.size Post) args s MC MS (va_A (wc_d Y X cs ad g0) s.heap.size)) 5 [(0, .ref (ad 3)), (1, .ref (ad 2)), (2, .ref (ad 1)), (3, .int x3), (4, .int x4)] [] g := by
  intro f
  induction f with
  | zero => intro x3 x4 g hV; exact hV.elim
  | succ f ih =>
    intro x3 x4 g hV
    rw [vc_X4_keepOld_5] at hV
    refine jj_iload (pc2 := 7) hC dX4_keepOld_5 4 rfl rfl ?_
    refine jj_aload_n (pc2 := 8) hC dX4_keepOld_7 rfl 1 rfl rfl ?_
    refine cg_A_writtenCount (pc2 := 11) hC hi_X4_keepOld_X0 lk_X4_keepOld_1 dX4_keepOld_8 rfl ?_
    refine jj_icmp_ge (pc2 := 14) hC 58 dX4_keepOld_11 (by decide) rfl (fun h1 => ?_) (fun h1 => ?_)
    · have hV := hV.1 h1
      exact jj_sub (lv2 := [(0, .ref (ad 3)), (1, .ref (ad 2)), (3, .int x3)]) [0, 1, 3] rfl (hK58 x3 g hV)
    · have hV := hV.2 h1
      refine jj_aload_n (pc2 := 15) hC dX4_keepOld_14 rfl 1 rfl rfl ?_
      refine cg_A_written (pc2 := 18) hC hi_X4_keepOld_X0 lk_X4_keepOld_2 dX4_keepOld_15 rfl ?_
      refine jj_iload (pc2 := 20) hC dX4_keepOld_18 4 rfl rfl ?_
      refine cl_A_written (pc2 := 21) hC hV.1 dX4_keepOld_20 rfl ?_
      have hV := hV.2
      refine jj_topi (fun y2 ey2 => ?_)
      have hV := hV y2 ey2
      refine jj_istore (pc2 := 23) hC [(5, .int y2), (0, .ref (ad 3)), (1, .ref (ad 2)), (2, .ref (ad 1)), (3, .int x3), (4, .int x4)] dX4_keepOld_21 (by decide) rfl rfl ?_
      refine jj_aload_n (pc2 := 24) hC dX4_keepOld_23 rfl 1 rfl rfl ?_
      refine cg_H_oldCells (pc2 := 27) hC hi_X4_keepOld_X4 lk_X4_keepOld_3 dX4_keepOld_24 rfl ?_
      refine jj_iload (pc2 := 29) hC dX4_keepOld_27 0 rfl rfl ?_
      refine jj_aload_n (pc2 := 30) hC dX4_keepOld_29 rfl 2 rfl rfl ?_
      refine cg_A_cells (pc2 := 33) hC hi_X4_keepOld_X0 lk_X4_keepOld_4 dX4_keepOld_30 rfl ?_
      refine jj_iload (pc2 := 35) hC dX4_keepOld_33 0 rfl rfl ?_
      refine cl_A_cells (pc2 := 36) hC hV.1 dX4_keepOld_35 rfl ?_
      have hV := hV.2
      refine ct_H_oldCells (pc2 := 37) hC hV.1 dX4_keepOld_36 rfl (fun g3 eg3 => ?_)
      have hV := hV.2 g3 eg3
      refine jj_iload_n (pc2 := 38) hC dX4_keepOld_37 rfl 4 rfl rfl ?_
      refine jj_iconst (pc2 := 39) hC 1 dX4_keepOld_38 (by decide) rfl ?_
      refine jj_aload_n (pc2 := 40) hC dX4_keepOld_39 rfl 3 rfl rfl ?_
      refine cg_T_homes (pc2 := 43) hC hi_X4_keepOld_X9 lk_X4_keepOld_5 dX4_keepOld_40 rfl ?_
      refine jj_iload (pc2 := 45) hC dX4_keepOld_43 0 rfl rfl ?_
      refine jj_bipush (pc2 := 47) hC 8 dX4_keepOld_45 (by decide) rfl ?_
      refine jj_idiv (pc2 := 48) hC dX4_keepOld_47 (by decide) rfl ?_
      refine cl_T_homes (pc2 := 49) hC hV.1 dX4_keepOld_48 rfl ?_
      have hV := hV.2
      refine jj_ishl (pc2 := 50) hC dX4_keepOld_49 rfl ?_
      refine jj_ior (pc2 := 51) hC dX4_keepOld_50 rfl ?_
      refine jj_topi (fun y4 ey4 => ?_)
      have hV := hV y4 ey4
      refine jj_istore_n (pc2 := 52) hC [(3, .int y4), (5, .int y2), (0, .ref (ad 3)), (1, .ref (ad 2)), (2, .ref (ad 1)), (4, .int x4)] dX4_keepOld_51 rfl (by decide) rfl rfl ?_
      refine jj_iinc (pc2 := 55) hC (x4 + 1) [(4, .int (x4 + 1)), (3, .int y4), (5, .int y2), (0, .ref (ad 3)), (1, .ref (ad 2)), (2, .ref (ad 1))] dX4_keepOld_52 5 rfl rfl (by decide) rfl rfl ?_
      refine jj_goto hC 5 dX4_keepOld_55 (by decide) ?_
      exact jj_sub (lv2 := [(0, .ref (ad 3)), (1, .ref (ad 2)), (2, .ref (ad 1)), (3, .int y4), (4, .int (x4 + 1))]) [3, 4, 5, 1, 0] rfl (ih y4 (x4 + 1) g3 hV)
set_option maxHeartbeats 4000000 in
set_option maxRecDepth 100000 in
theorem ac_X4_keepOld_61 {p : Program} {l : Launch} {e : Env} {s : State} {m : MethodId} {args : Array Value} {below : List Frame} {meth : Method} {c : Code} {D : va_G} {cs : Nat → ClassId} {Y X : va_W} {ad : Nat → Nat} {g0 : cm_M} {MC MS : Nat} (hC : JC p s m args meth c D vwCl (va_A (wc_d Y X cs ad g0) s.heap.size) 6 cX4_keepOld none wsX4_keepOld RX4 (jt_tys cs)) (x3 : Int32) (Post : cm_M → Prop) (K92 : cm_M → Prop) (hK92 : ∀ (g : cm_M) , K92 g → JJ (wc_d Y X cs ad) p l e (rm_X4_keepOld MC MS) s m args below meth c D vwCl (va_A (wc_d Y X cs ad g0) s.heap.size) 6 0 0 (MQ below (jj_QV (wc_d Y X cs ad) D vwCl (jt_tys cs) g0 s.heap.size Post) args s MC MS (va_A (wc_d Y X cs ad g0) s.heap.size)) 92 [(0, .ref (ad 3)), (3, .int x3)] [] g) : ∀ (f : Nat) (x4 : Int32) (g : cm_M), vc_X4_keepOld_61 MC MS x3 K92 Post f x4 g → JJ (wc_d Y X cs ad) p l e (rm_X4_keepOld MC MS) s m args below meth c D vwCl (va_A (wc_d Y X cs ad g0) s.heap.size) 6 0 0 (MQ below (jj_QV (wc_d Y X cs ad) D vwCl (jt_tys cs) g0 s.heap.size Post) args s MC MS (va_A (wc_d Y X cs ad g0) s.heap.size)) 61 [(0, .ref (ad 3)), (1, .ref (ad 2)), (3, .int x3), (4, .int x4)] [] g := by
  intro f
  induction f with
  | zero => intro x4 g hV; exact hV.elim
  | succ f ih =>
    intro x4 g hV
    rw [vc_X4_keepOld_61] at hV
    refine jj_iload (pc2 := 63) hC dX4_keepOld_61 3 rfl rfl ?_
    refine jj_aload_n (pc2 := 64) hC dX4_keepOld_63 rfl 1 rfl rfl ?_
    refine cg_A_tieCount (pc2 := 67) hC hi_X4_keepOld_X0 lk_X4_keepOld_6 dX4_keepOld_64 rfl ?_
    refine jj_icmp_ge (pc2 := 70) hC 92 dX4_keepOld_67 (by decide) rfl (fun h7 => ?_) (fun h7 => ?_)
    · have hV := hV.1 h7
      exact jj_sub (lv2 := [(0, .ref (ad 3)), (3, .int x3)]) [0, 2] rfl (hK92 g hV)
    · have hV := hV.2 h7
      refine jj_aload_n (pc2 := 71) hC dX4_keepOld_70 rfl 0 rfl rfl ?_
      refine cg_H_counts (pc2 := 74) hC hi_X4_keepOld_X4 lk_X4_keepOld_7 dX4_keepOld_71 rfl ?_
      refine jj_aload_n (pc2 := 75) hC dX4_keepOld_74 rfl 1 rfl rfl ?_
      refine cg_A_ties (pc2 := 78) hC hi_X4_keepOld_X0 lk_X4_keepOld_8 dX4_keepOld_75 rfl ?_
      refine jj_iload (pc2 := 80) hC dX4_keepOld_78 3 rfl rfl ?_
      refine cl_A_ties (pc2 := 81) hC hV.1 dX4_keepOld_80 rfl ?_
      have hV := hV.2
      refine jj_dup2 (pc2 := 82) hC dX4_keepOld_81 rfl rfl rfl ?_
      refine cl_H_counts (pc2 := 83) hC hV.1 dX4_keepOld_82 rfl ?_
      have hV := hV.2
      refine jj_iconst (pc2 := 84) hC 1 dX4_keepOld_83 (by decide) rfl ?_
      refine jj_iadd (pc2 := 85) hC dX4_keepOld_84 rfl ?_
      refine ct_H_counts (pc2 := 86) hC hV.1 dX4_keepOld_85 rfl (fun g8 eg8 => ?_)
      have hV := hV.2 g8 eg8
      refine jj_iinc (pc2 := 89) hC (x4 + 1) [(4, .int (x4 + 1)), (0, .ref (ad 3)), (1, .ref (ad 2)), (3, .int x3)] dX4_keepOld_86 3 rfl rfl (by decide) rfl rfl ?_
      refine jj_goto hC 61 dX4_keepOld_89 (by decide) ?_
      exact jj_sub (lv2 := [(0, .ref (ad 3)), (1, .ref (ad 2)), (3, .int x3), (4, .int (x4 + 1))]) [1, 2, 3, 0] rfl (ih (x4 + 1) g8 hV)
set_option maxHeartbeats 4000000 in
set_option maxRecDepth 100000 in
theorem kc_X4_keepOld (l : Launch) (D : va_G) (cs : Nat → ClassId) (Y X : va_W) (ad : Nat → Nat) (MC : Nat) (MS : Nat) (g0 : cm_M) (Post : cm_M → Prop) (hV : vc_X4_keepOld MC MS g0 Post) : JV (wc_d Y X cs ad) D vwCl (jt_tys cs) l yX4_keepOld wsX4_keepOld (rm_X4_keepOld MC MS) MC MS [.ref (ad 3), .ref (ad 2), .ref (ad 1)] g0 Post := by
  refine jj_metV (cc := cX4_keepOld) (nL := 6) (ret := none) (by decide) rfl (Nat.le_of_ble_eq_true rfl) [(0, .ref (ad 3)), (1, .ref (ad 2)), (2, .ref (ad 1))] rfl ?_
  intro p e s m args below meth c hC hnm
  rw [vc_X4_keepOld] at hV
  refine jj_iconst (pc2 := 1) hC 0 dX4_keepOld_0 (by decide) rfl ?_
  refine jj_istore_n (pc2 := 2) hC [(3, .int 0), (0, .ref (ad 3)), (1, .ref (ad 2)), (2, .ref (ad 1))] dX4_keepOld_1 rfl (by decide) rfl rfl ?_
  refine jj_iconst (pc2 := 3) hC 0 dX4_keepOld_2 (by decide) rfl ?_
  refine jj_istore (pc2 := 5) hC [(4, .int 0), (3, .int 0), (0, .ref (ad 3)), (1, .ref (ad 2)), (2, .ref (ad 1))] dX4_keepOld_3 (by decide) rfl rfl ?_
  obtain ⟨n16, hV⟩ := hV
  refine jj_sub (lv2 := [(0, .ref (ad 3)), (1, .ref (ad 2)), (2, .ref (ad 1)), (3, .int 0), (4, .int 0)]) [2, 3, 4, 1, 0] rfl (ac_X4_keepOld_5 hC Post _ (fun y5 g6 hV => ?_) n16 0 0 g0 hV)
  refine jj_iconst (pc2 := 59) hC 0 dX4_keepOld_58 (by decide) rfl ?_
  refine jj_istore (pc2 := 61) hC [(4, .int 0), (0, .ref (ad 3)), (1, .ref (ad 2)), (3, .int y5)] dX4_keepOld_59 (by decide) rfl rfl ?_
  obtain ⟨n15, hV⟩ := hV
  refine jj_sub (lv2 := [(0, .ref (ad 3)), (1, .ref (ad 2)), (3, .int y5), (4, .int 0)]) [1, 2, 3, 0] rfl (ac_X4_keepOld_61 hC y5 Post _ (fun g9 hV => ?_) n15 0 g6 hV)
  refine jj_aload_n (pc2 := 93) hC dX4_keepOld_92 rfl 0 rfl rfl ?_
  refine cg_H_homeSets (pc2 := 96) hC hi_X4_keepOld_X4 lk_X4_keepOld_9 dX4_keepOld_93 rfl ?_
  refine jj_iload_n (pc2 := 97) hC dX4_keepOld_96 rfl 1 rfl rfl ?_
  obtain ⟨mc12, ms13, hmc12, hms13, hV⟩ := hV
  refine jj_callVV (pc2 := 100) (wd := wc_d Y X cs ad) (g := g9) (rest := []) hC (Y.length + 4) (jx_at (V := wc_W cs ad g9) rfl) rfl rfl (kc_X3_add l D cs Y X ad mc12 ms13 y5 g9 _ hV) (cwV 1 hC.1.2.2.2.2 gX4_keepOld_X3_add rfl rfl rfl (by decide +kernel) ⟨by show 2 + 1 ≤ 3; omega, by show 8 + (3 + 11) + 62 ≤ 84; omega⟩) rfl (Nat.le_of_ble_eq_true rfl) _ rfl dX4_keepOld_97 ⟨hmc12, hms13⟩ rfl (fun g11 hV => ?_)
  refine jj_aload_n (pc2 := 101) hC dX4_keepOld_100 rfl 0 rfl rfl ?_
  refine jj_dup (pc2 := 102) hC dX4_keepOld_101 rfl rfl ?_
  refine cg_H_oldActs (pc2 := 105) hC hi_X4_keepOld_X4 lk_X4_keepOld_10 dX4_keepOld_102 rfl ?_
  refine jj_iconst (pc2 := 106) hC 1 dX4_keepOld_105 (by decide) rfl ?_
  refine jj_iadd (pc2 := 107) hC dX4_keepOld_106 rfl ?_
  refine cp_H_oldActs (pc2 := 110) hC hi_X4_keepOld_X4 lk_X4_keepOld_10 dX4_keepOld_107 rfl (fun g14 eg14 => ?_)
  have hV := hV g14 eg14
  obtain ⟨hb1, hb2, hV⟩ := hV
  refine jj_widen (k := MC) (n := MS) hb1 hb2 ?_
  exact jj_vret hC dX4_keepOld_110 hV
theorem hi_X6_send_X6 : ∀ w ∈ u_ws RX6 TX6 5, w ∈ wsX6_send := fun _ h => List.mem_cons_of_mem _ (List.mem_append_right _ h)
theorem lk_X6_send_1 : Cond.fieldLink RX6 21 "PartedHouse$Letters" "sent" "I" ∈ wsX6_send := List.mem_of_getElem? (i := 1) rfl
theorem lk_X6_send_5 : Cond.fieldLink RX6 25 "PartedHouse$Letters" "waits" "I" ∈ wsX6_send := List.mem_of_getElem? (i := 5) rfl
theorem lk_X6_send_4 : Cond.fieldLink RX6 18 "PartedHouse$Letters" "waiting" "[I" ∈ wsX6_send := List.mem_of_getElem? (i := 4) rfl
theorem lk_X6_send_3 : Cond.fieldLink RX6 15 "PartedHouse$Letters" "says" "[I" ∈ wsX6_send := List.mem_of_getElem? (i := 3) rfl
theorem lk_X6_send_2 : Cond.fieldLink RX6 11 "PartedHouse$Letters" "addresses" "[I" ∈ wsX6_send := List.mem_of_getElem? (i := 2) rfl
abbrev rm_X6_send (MC MS : Nat) : Room := { frames := 2, cells := MC, slots := MS, locals := 62 }
def vc_X6_send (MC : Nat) (MS : Nat) (a1 : Int32) (a2 : Int32) (a3 : Int32) (a4 : Int32) (g0 : cm_M) (Post : cm_M → Prop) : Prop := (((g0.2.2 40 0) < (Int32.ofNat (g0.1.2.1 2))) → ((vp_in (g0.2.2 40 0) (g0.1.2.1 2)) ∧ (∀ g2 : cm_M, g2 = cm_a g0 37 (g0.2.2 40 0) ((((a1 * 6) + a3) * 6) + a4) → ((vp_in (g2.2.2 40 0) (g2.1.2.1 3)) ∧ (∀ g3 : cm_M, g3 = cm_a g2 38 (g2.2.2 40 0) a2 → ((vp_in (g3.2.2 41 0) 40) ∧ (∀ g4 : cm_M, g4 = cm_a g3 39 (g3.2.2 41 0) (g3.2.2 40 0) → (∀ g5 : cm_M, g5 = cm_s g4 41 ((g4.2.2 41 0) + 1) → (∀ g6 : cm_M, g6 = cm_s g5 40 ((g5.2.2 40 0) + 1) → (Post g6)))))))))) ∧ ((¬ (g0.2.2 40 0) < (Int32.ofNat (g0.1.2.1 2))) → (∀ y7 : Int32, y7 = (g0.2.2 40 0) * 2 → ((¬ y7 < 0) ∧ (¬ y7 = Int32.ofNat (g0.1.2.1 2)) ∧ ((g0.1.2.1 2) ≤ y7.toNatClampNeg) ∧ (y7.toNatClampNeg * 4 ≤ 536870912) ∧ (0 + 1 ≤ MC) ∧ (0 + y7.toNatClampNeg ≤ MS) ∧ (∀ q8 : Nat, ∀ g9 : cm_M, g9 = cm_grow g0 2 37 q8 (y7.toNatClampNeg) (va_cpy (g0.2.2 37) (fun _ => 0) 0 0 (g0.1.2.1 2)) → (∀ y10 : Int32, y10 = (g9.2.2 40 0) * 2 → ((¬ y10 < 0) ∧ (¬ y10 = Int32.ofNat (g9.1.2.1 3)) ∧ ((g9.1.2.1 3) ≤ y10.toNatClampNeg) ∧ (y10.toNatClampNeg * 4 ≤ 536870912) ∧ ((0 + 1) + 1 ≤ MC) ∧ ((0 + y7.toNatClampNeg) + y10.toNatClampNeg ≤ MS) ∧ (∀ q11 : Nat, ∀ g12 : cm_M, g12 = cm_grow g9 3 38 q11 (y10.toNatClampNeg) (va_cpy (g9.2.2 38) (fun _ => 0) 0 0 (g9.1.2.1 3)) → ((vp_in (g12.2.2 40 0) (g12.1.2.1 2)) ∧ (∀ g13 : cm_M, g13 = cm_a g12 37 (g12.2.2 40 0) ((((a1 * 6) + a3) * 6) + a4) → ((vp_in (g13.2.2 40 0) (g13.1.2.1 3)) ∧ (∀ g14 : cm_M, g14 = cm_a g13 38 (g13.2.2 40 0) a2 → ((vp_in (g14.2.2 41 0) 40) ∧ (∀ g15 : cm_M, g15 = cm_a g14 39 (g14.2.2 41 0) (g14.2.2 40 0) → (∀ g16 : cm_M, g16 = cm_s g15 41 ((g15.2.2 41 0) + 1) → (∀ g17 : cm_M, g17 = cm_s g16 40 ((g16.2.2 40 0) + 1) → (((0 + 1) + 1 ≤ MC) ∧ ((0 + y7.toNatClampNeg) + y10.toNatClampNeg ≤ MS) ∧ (Post g17)))))))))))))))))
set_option maxHeartbeats 4000000 in
set_option maxRecDepth 100000 in
theorem kc_X6_send (l : Launch) (D : va_G) (cs : Nat → ClassId) (Y X : va_W) (ad : Nat → Nat) (MC : Nat) (MS : Nat) (a1 : Int32) (a2 : Int32) (a3 : Int32) (a4 : Int32) (g0 : cm_M) (Post : cm_M → Prop) (hV : vc_X6_send MC MS a1 a2 a3 a4 g0 Post) : JV (wc_d Y X cs ad) D vwCl (jt_tys cs) l yX6_send wsX6_send (rm_X6_send MC MS) MC MS [.ref (ad 5), .int a1, .int a2, .int a3, .int a4] g0 Post := by
  refine jj_metV (cc := cX6_send) (nL := 5) (ret := none) (by decide) rfl (Nat.le_of_ble_eq_true rfl) [(0, .ref (ad 5)), (1, .int a1), (2, .int a2), (3, .int a3), (4, .int a4)] rfl ?_
  intro p e s m args below meth c hC hnm
  rw [vc_X6_send] at hV
  refine jj_aload_n (pc2 := 1) hC dX6_send_0 rfl 0 rfl rfl ?_
  refine cg_L_sent (pc2 := 4) hC hi_X6_send_X6 lk_X6_send_1 dX6_send_1 rfl ?_
  refine jj_aload_n (pc2 := 5) hC dX6_send_4 rfl 0 rfl rfl ?_
  refine cg_L_addresses (pc2 := 8) hC hi_X6_send_X6 lk_X6_send_2 dX6_send_5 rfl ?_
  refine jj_alen (pc2 := 9) (wd := wc_d Y X cs ad) (g := g0) hC (Y.length + 37) 0 (jx_at (V := wc_W cs ad g0) rfl) rfl dX6_send_8 rfl ?_
  refine jj_icmp_lt (pc2 := 12) hC 46 dX6_send_9 (by decide) rfl (fun h1 => ?_) (fun h1 => ?_)
  · have hV := hV.1 h1
    refine jj_aload_n (pc2 := 47) hC dX6_send_46 rfl 0 rfl rfl ?_
    refine cg_L_addresses (pc2 := 50) hC hi_X6_send_X6 lk_X6_send_2 dX6_send_47 rfl ?_
    refine jj_aload_n (pc2 := 51) hC dX6_send_50 rfl 0 rfl rfl ?_
    refine cg_L_sent (pc2 := 54) hC hi_X6_send_X6 lk_X6_send_1 dX6_send_51 rfl ?_
    refine jj_iload_n (pc2 := 55) hC dX6_send_54 rfl 1 rfl rfl ?_
    refine jj_bipush (pc2 := 57) hC 6 dX6_send_55 (by decide) rfl ?_
    refine jj_imul (pc2 := 58) hC dX6_send_57 rfl ?_
    refine jj_iload_n (pc2 := 59) hC dX6_send_58 rfl 3 rfl rfl ?_
    refine jj_iadd (pc2 := 60) hC dX6_send_59 rfl ?_
    refine jj_bipush (pc2 := 62) hC 6 dX6_send_60 (by decide) rfl ?_
    refine jj_imul (pc2 := 63) hC dX6_send_62 rfl ?_
    refine jj_iload (pc2 := 65) hC dX6_send_63 4 rfl rfl ?_
    refine jj_iadd (pc2 := 66) hC dX6_send_65 rfl ?_
    refine ct_L_addresses (pc2 := 67) hC hV.1 dX6_send_66 rfl (fun g2 eg2 => ?_)
    have hV := hV.2 g2 eg2
    refine jj_aload_n (pc2 := 68) hC dX6_send_67 rfl 0 rfl rfl ?_
    refine cg_L_says (pc2 := 71) hC hi_X6_send_X6 lk_X6_send_3 dX6_send_68 rfl ?_
    refine jj_aload_n (pc2 := 72) hC dX6_send_71 rfl 0 rfl rfl ?_
    refine cg_L_sent (pc2 := 75) hC hi_X6_send_X6 lk_X6_send_1 dX6_send_72 rfl ?_
    refine jj_iload_n (pc2 := 76) hC dX6_send_75 rfl 2 rfl rfl ?_
    refine ct_L_says (pc2 := 77) hC hV.1 dX6_send_76 rfl (fun g3 eg3 => ?_)
    have hV := hV.2 g3 eg3
    refine jj_aload_n (pc2 := 78) hC dX6_send_77 rfl 0 rfl rfl ?_
    refine cg_L_waiting (pc2 := 81) hC hi_X6_send_X6 lk_X6_send_4 dX6_send_78 rfl ?_
    refine jj_aload_n (pc2 := 82) hC dX6_send_81 rfl 0 rfl rfl ?_
    refine cg_L_waits (pc2 := 85) hC hi_X6_send_X6 lk_X6_send_5 dX6_send_82 rfl ?_
    refine jj_aload_n (pc2 := 86) hC dX6_send_85 rfl 0 rfl rfl ?_
    refine cg_L_sent (pc2 := 89) hC hi_X6_send_X6 lk_X6_send_1 dX6_send_86 rfl ?_
    refine ct_L_waiting (pc2 := 90) hC hV.1 dX6_send_89 rfl (fun g4 eg4 => ?_)
    have hV := hV.2 g4 eg4
    refine jj_aload_n (pc2 := 91) hC dX6_send_90 rfl 0 rfl rfl ?_
    refine jj_dup (pc2 := 92) hC dX6_send_91 rfl rfl ?_
    refine cg_L_waits (pc2 := 95) hC hi_X6_send_X6 lk_X6_send_5 dX6_send_92 rfl ?_
    refine jj_iconst (pc2 := 96) hC 1 dX6_send_95 (by decide) rfl ?_
    refine jj_iadd (pc2 := 97) hC dX6_send_96 rfl ?_
    refine cp_L_waits (pc2 := 100) hC hi_X6_send_X6 lk_X6_send_5 dX6_send_97 rfl (fun g5 eg5 => ?_)
    have hV := hV g5 eg5
    refine jj_aload_n (pc2 := 101) hC dX6_send_100 rfl 0 rfl rfl ?_
    refine jj_dup (pc2 := 102) hC dX6_send_101 rfl rfl ?_
    refine cg_L_sent (pc2 := 105) hC hi_X6_send_X6 lk_X6_send_1 dX6_send_102 rfl ?_
    refine jj_iconst (pc2 := 106) hC 1 dX6_send_105 (by decide) rfl ?_
    refine jj_iadd (pc2 := 107) hC dX6_send_106 rfl ?_
    refine cp_L_sent (pc2 := 110) hC hi_X6_send_X6 lk_X6_send_1 dX6_send_107 rfl (fun g6 eg6 => ?_)
    have hV := hV g6 eg6
    refine jj_widen (k := MC) (n := MS) (Nat.zero_le _) (Nat.zero_le _) ?_
    exact jj_vret hC dX6_send_110 hV
  · have hV := hV.2 h1
    refine jj_aload_n (pc2 := 13) hC dX6_send_12 rfl 0 rfl rfl ?_
    refine jj_aload_n (pc2 := 14) hC dX6_send_13 rfl 0 rfl rfl ?_
    refine cg_L_addresses (pc2 := 17) hC hi_X6_send_X6 lk_X6_send_2 dX6_send_14 rfl ?_
    refine jj_aload_n (pc2 := 18) hC dX6_send_17 rfl 0 rfl rfl ?_
    refine cg_L_sent (pc2 := 21) hC hi_X6_send_X6 lk_X6_send_1 dX6_send_18 rfl ?_
    refine jj_iconst (pc2 := 22) hC 2 dX6_send_21 (by decide) rfl ?_
    refine jj_imul (pc2 := 23) hC dX6_send_22 rfl ?_
    refine jj_topi (fun y7 ey7 => ?_)
    have hV := hV y7 ey7
    obtain ⟨c19a, c19b, c19c, c19d, c19e, c19f, hV⟩ := hV
    refine jf_copy (pc2 := 26) (rest := [.ref (ad 5)]) hC (Y.length + 37) (jx_at (V := wc_W cs ad g0) rfl) rfl c19a c19b c19c c19d (va_cwS 2 hC.1.2.2.2.2 gX6_send_J7_copyOf_59c91 rfl rfl rfl (by decide +kernel) ⟨by show 1 + 1 ≤ 2; omega, by show 8 + (3 + 11) + 40 ≤ 62; omega⟩) (Nat.le_of_ble_eq_true rfl) dX6_send_23 ⟨c19e, c19f⟩ rfl (fun q8 => ?_)
    have hV := hV q8
    refine cq_L_addresses (pc2 := 29) hC hi_X6_send_X6 lk_X6_send_2 dX6_send_26 rfl (fun g9 eg9 => ?_)
    have hV := hV g9 eg9
    refine jj_aload_n (pc2 := 30) hC dX6_send_29 rfl 0 rfl rfl ?_
    refine jj_aload_n (pc2 := 31) hC dX6_send_30 rfl 0 rfl rfl ?_
    refine cg_L_says (pc2 := 34) hC hi_X6_send_X6 lk_X6_send_3 dX6_send_31 rfl ?_
    refine jj_aload_n (pc2 := 35) hC dX6_send_34 rfl 0 rfl rfl ?_
    refine cg_L_sent (pc2 := 38) hC hi_X6_send_X6 lk_X6_send_1 dX6_send_35 rfl ?_
    refine jj_iconst (pc2 := 39) hC 2 dX6_send_38 (by decide) rfl ?_
    refine jj_imul (pc2 := 40) hC dX6_send_39 rfl ?_
    refine jj_topi (fun y10 ey10 => ?_)
    have hV := hV y10 ey10
    obtain ⟨c18a, c18b, c18c, c18d, c18e, c18f, hV⟩ := hV
    refine jf_copy (pc2 := 43) (rest := [.ref (ad 5)]) hC (Y.length + 38) (jx_at (V := wc_W cs ad g9) rfl) rfl c18a c18b c18c c18d (va_cwS 2 hC.1.2.2.2.2 gX6_send_J7_copyOf_59c91 rfl rfl rfl (by decide +kernel) ⟨by show 1 + 1 ≤ 2; omega, by show 8 + (3 + 11) + 40 ≤ 62; omega⟩) (Nat.le_of_ble_eq_true rfl) dX6_send_40 ⟨c18e, c18f⟩ rfl (fun q11 => ?_)
    have hV := hV q11
    refine cq_L_says (pc2 := 46) hC hi_X6_send_X6 lk_X6_send_3 dX6_send_43 rfl (fun g12 eg12 => ?_)
    have hV := hV g12 eg12
    refine jj_aload_n (pc2 := 47) hC dX6_send_46 rfl 0 rfl rfl ?_
    refine cg_L_addresses (pc2 := 50) hC hi_X6_send_X6 lk_X6_send_2 dX6_send_47 rfl ?_
    refine jj_aload_n (pc2 := 51) hC dX6_send_50 rfl 0 rfl rfl ?_
    refine cg_L_sent (pc2 := 54) hC hi_X6_send_X6 lk_X6_send_1 dX6_send_51 rfl ?_
    refine jj_iload_n (pc2 := 55) hC dX6_send_54 rfl 1 rfl rfl ?_
    refine jj_bipush (pc2 := 57) hC 6 dX6_send_55 (by decide) rfl ?_
    refine jj_imul (pc2 := 58) hC dX6_send_57 rfl ?_
    refine jj_iload_n (pc2 := 59) hC dX6_send_58 rfl 3 rfl rfl ?_
    refine jj_iadd (pc2 := 60) hC dX6_send_59 rfl ?_
    refine jj_bipush (pc2 := 62) hC 6 dX6_send_60 (by decide) rfl ?_
    refine jj_imul (pc2 := 63) hC dX6_send_62 rfl ?_
    refine jj_iload (pc2 := 65) hC dX6_send_63 4 rfl rfl ?_
    refine jj_iadd (pc2 := 66) hC dX6_send_65 rfl ?_
    refine ct_L_addresses (pc2 := 67) hC hV.1 dX6_send_66 rfl (fun g13 eg13 => ?_)
    have hV := hV.2 g13 eg13
    refine jj_aload_n (pc2 := 68) hC dX6_send_67 rfl 0 rfl rfl ?_
    refine cg_L_says (pc2 := 71) hC hi_X6_send_X6 lk_X6_send_3 dX6_send_68 rfl ?_
    refine jj_aload_n (pc2 := 72) hC dX6_send_71 rfl 0 rfl rfl ?_
    refine cg_L_sent (pc2 := 75) hC hi_X6_send_X6 lk_X6_send_1 dX6_send_72 rfl ?_
    refine jj_iload_n (pc2 := 76) hC dX6_send_75 rfl 2 rfl rfl ?_
    refine ct_L_says (pc2 := 77) hC hV.1 dX6_send_76 rfl (fun g14 eg14 => ?_)
    have hV := hV.2 g14 eg14
    refine jj_aload_n (pc2 := 78) hC dX6_send_77 rfl 0 rfl rfl ?_
    refine cg_L_waiting (pc2 := 81) hC hi_X6_send_X6 lk_X6_send_4 dX6_send_78 rfl ?_
    refine jj_aload_n (pc2 := 82) hC dX6_send_81 rfl 0 rfl rfl ?_
    refine cg_L_waits (pc2 := 85) hC hi_X6_send_X6 lk_X6_send_5 dX6_send_82 rfl ?_
    refine jj_aload_n (pc2 := 86) hC dX6_send_85 rfl 0 rfl rfl ?_
    refine cg_L_sent (pc2 := 89) hC hi_X6_send_X6 lk_X6_send_1 dX6_send_86 rfl ?_
    refine ct_L_waiting (pc2 := 90) hC hV.1 dX6_send_89 rfl (fun g15 eg15 => ?_)
    have hV := hV.2 g15 eg15
    refine jj_aload_n (pc2 := 91) hC dX6_send_90 rfl 0 rfl rfl ?_
    refine jj_dup (pc2 := 92) hC dX6_send_91 rfl rfl ?_
    refine cg_L_waits (pc2 := 95) hC hi_X6_send_X6 lk_X6_send_5 dX6_send_92 rfl ?_
    refine jj_iconst (pc2 := 96) hC 1 dX6_send_95 (by decide) rfl ?_
    refine jj_iadd (pc2 := 97) hC dX6_send_96 rfl ?_
    refine cp_L_waits (pc2 := 100) hC hi_X6_send_X6 lk_X6_send_5 dX6_send_97 rfl (fun g16 eg16 => ?_)
    have hV := hV g16 eg16
    refine jj_aload_n (pc2 := 101) hC dX6_send_100 rfl 0 rfl rfl ?_
    refine jj_dup (pc2 := 102) hC dX6_send_101 rfl rfl ?_
    refine cg_L_sent (pc2 := 105) hC hi_X6_send_X6 lk_X6_send_1 dX6_send_102 rfl ?_
    refine jj_iconst (pc2 := 106) hC 1 dX6_send_105 (by decide) rfl ?_
    refine jj_iadd (pc2 := 107) hC dX6_send_106 rfl ?_
    refine cp_L_sent (pc2 := 110) hC hi_X6_send_X6 lk_X6_send_1 dX6_send_107 rfl (fun g17 eg17 => ?_)
    have hV := hV g17 eg17
    obtain ⟨hb1, hb2, hV⟩ := hV
    refine jj_widen (k := MC) (n := MS) hb1 hb2 ?_
    exact jj_vret hC dX6_send_110 hV
theorem hi_X4_keepNew_X0 : ∀ w ∈ u_ws RX0 TX0 10, w ∈ wsX4_keepNew := fun _ h => List.mem_cons_of_mem _ (List.mem_append_left _ (List.mem_append_left _ (List.mem_append_right _ h)))
theorem lk_X4_keepNew_3 : Cond.fieldLink RX4 47 "PartedHouse$Act" "written" "[I" ∈ wsX4_keepNew := List.mem_of_getElem? (i := 3) rfl
theorem lk_X4_keepNew_2 : Cond.fieldLink RX4 41 "PartedHouse$Act" "writtenCount" "I" ∈ wsX4_keepNew := List.mem_of_getElem? (i := 2) rfl
theorem lk_X4_keepNew_6 : Cond.fieldLink RX4 50 "PartedHouse$Act" "cells" "[I" ∈ wsX4_keepNew := List.mem_of_getElem? (i := 6) rfl
theorem hi_X4_keepNew_X4 : ∀ w ∈ u_ws RX4 TX4 11, w ∈ wsX4_keepNew := fun _ h => List.mem_cons_of_mem _ (List.mem_append_left _ (List.mem_append_left _ (List.mem_append_left _ (List.mem_append_right _ h))))
theorem lk_X4_keepNew_4 : Cond.fieldLink RX4 34 "PartedHouse$Houses" "letters" "LPartedHouse$Letters;" ∈ wsX4_keepNew := List.mem_of_getElem? (i := 4) rfl
theorem lk_X4_keepNew_5 : Cond.fieldLink RX4 15 "PartedHouse$Houses" "newCells" "[I" ∈ wsX4_keepNew := List.mem_of_getElem? (i := 5) rfl
theorem lk_X4_keepNew_7 : Cond.fieldLink RX4 83 "PartedHouse$Houses" "newActs" "I" ∈ wsX4_keepNew := List.mem_of_getElem? (i := 7) rfl
theorem lk_X4_keepNew_1 : Cond.fieldLink RX4 18 "PartedHouse$Houses" "rooms" "[I" ∈ wsX4_keepNew := List.mem_of_getElem? (i := 1) rfl
abbrev rm_X4_keepNew (MC MS : Nat) : Room := { frames := 3, cells := MC, slots := MS, locals := 86 }
def vc_X4_keepNew_14 (MC : Nat) (MS : Nat) (x4 : Int32) (g : cm_M) (K49 : Int32 → Prop) (Post : Int32 → cm_M → Prop) : Nat → Int32 → Int32 → Prop
  | 0, _, _ => False
  | f + 1, x5, x6 => (((g.2.2 21 0) ≤ x6) → (K49 x5)) ∧ ((¬ (g.2.2 21 0) ≤ x6) → ((vp_in x6 128) ∧ (vc_X4_roomOf (g.2.2 17 x6.toNatClampNeg) g (fun (r3 : Int32) => ((r3 = x4) → (vc_X4_keepNew_14 MC MS x4 g K49 Post f x5 (x6 + 1))) ∧ ((¬ r3 = x4) → (vc_X4_keepNew_14 MC MS x4 g K49 Post f (x5 + 1) (x6 + 1)))))))
def vc_X4_keepNew_66 (MC : Nat) (MS : Nat) (x4 : Int32) (K143 : Nat → Nat → cm_M → Prop) (Post : Int32 → cm_M → Prop) : Nat → Int32 → Nat → Nat → cm_M → Prop
  | 0, _, _, _, _ => False
  | f + 1, x6, uc, us, g => (uc ≤ MC) ∧ (us ≤ MS) ∧ ((((g.2.2 21 0) ≤ x6) → (K143 uc us g)) ∧ ((¬ (g.2.2 21 0) ≤ x6) → ((vp_in x6 128) ∧ (∀ y9 : Int32, y9 = g.2.2 17 x6.toNatClampNeg → (vc_X4_roomOf y9 g (fun (r10 : Int32) => ((¬ r10 = x4) → ((vp_in y9 128) ∧ (∃ mc14 ms15 : Nat, (uc + mc14 ≤ MC) ∧ (us + ms15 ≤ MS) ∧ (vc_X6_send mc14 ms15 y9 (g.2.2 15 y9.toNatClampNeg) x4 r10 g (fun (g13 : cm_M) => vc_X4_keepNew_66 MC MS x4 K143 Post f (x6 + 1) (uc + mc14) (us + ms15) g13))))) ∧ ((r10 = x4) → ((vp_in y9 128) ∧ ((vp_in y9 128) ∧ (∀ g16 : cm_M, g16 = cm_a g 26 y9 (g.2.2 15 y9.toNatClampNeg) → (vc_X4_keepNew_66 MC MS x4 K143 Post f (x6 + 1) uc us g16)))))))))))
def vc_X4_keepNew (MC : Nat) (MS : Nat) (a3 : Int32) (g0 : cm_M) (Post : Int32 → cm_M → Prop) : Prop := (vp_in a3 10) ∧ (∀ y1 : Int32, y1 = g0.2.2 27 a3.toNatClampNeg → (∃ n22 : Nat, vc_X4_keepNew_14 MC MS y1 g0 (fun (y5 : Int32) => vc_X6_canTake y5 g0 (fun (r6 : Int32) => ((¬ r6 = 0) → (∃ n21 : Nat, vc_X4_keepNew_66 MC MS y1 (fun (uc18 us19 : Nat) (g17 : cm_M) => ∀ g20 : cm_M, g20 = cm_s g17 32 ((g17.2.2 32 0) + 1) → ((uc18 ≤ MC) ∧ (us19 ≤ MS) ∧ (Post 1 g20))) Post n21 0 0 0 g0)) ∧ ((r6 = 0) → (Post 0 g0)))) Post n22 0 0))
set_option maxHeartbeats 4000000 in
set_option maxRecDepth 100000 in
theorem ac_X4_keepNew_14 {p : Program} {l : Launch} {e : Env} {s : State} {m : MethodId} {args : Array Value} {below : List Frame} {meth : Method} {c : Code} {D : va_G} {cs : Nat → ClassId} {Y X : va_W} {ad : Nat → Nat} {g0 : cm_M} {MC MS : Nat} (hC : JC p s m args meth c D vwCl (va_A (wc_d Y X cs ad g0) s.heap.size) 9 cX4_keepNew (some .boolean) wsX4_keepNew RX4 (jt_tys cs)) (x4 : Int32) (g : cm_M) (Post : Int32 → cm_M → Prop) (K49 : Int32 → Prop) (hK49 : ∀ (z5 : Int32) , K49 z5 → JJ (wc_d Y X cs ad) p l e (rm_X4_keepNew MC MS) s m args below meth c D vwCl (va_A (wc_d Y X cs ad g0) s.heap.size) 9 0 0 (MQ below (jj_QI (wc_d Y X cs ad) D vwCl (jt_tys cs) g0 s.heap.size Post) args s MC MS (va_A (wc_d Y X cs ad g0) s.heap.size)) 49 [(0, .ref (ad 3)), (1, .ref (ad 2)), (2, .ref (ad 1)), (4, .int x4), (5, .int z5)] [] g) : ∀ (f : Nat) (x5 : Int32) (x6 : Int32), vc_X4_keepNew_14 MC MS x4 g K49 Post f x5 x6 → JJ (wc_d Y X cs ad) p l e (rm_X4_keepNew MC MS) s m args below meth c D vwCl (va_A (wc_d Y X cs ad g0) s.heap.size) 9 0 0 (MQ below (jj_QI (wc_d Y X cs ad) D vwCl (jt_tys cs) g0 s.heap.size Post) args s MC MS (va_A (wc_d Y X cs ad g0) s.heap.size)) 14 [(0, .ref (ad 3)), (1, .ref (ad 2)), (2, .ref (ad 1)), (4, .int x4), (5, .int x5), (6, .int x6)] [] g := by
  intro f
  induction f with
  | zero => intro x5 x6 hV; exact hV.elim
  | succ f ih =>
    intro x5 x6 hV
    rw [vc_X4_keepNew_14] at hV
    refine jj_iload (pc2 := 16) hC dX4_keepNew_14 5 rfl rfl ?_
    refine jj_aload_n (pc2 := 17) hC dX4_keepNew_16 rfl 1 rfl rfl ?_
    refine cg_A_writtenCount (pc2 := 20) hC hi_X4_keepNew_X0 lk_X4_keepNew_2 dX4_keepNew_17 rfl ?_
    refine jj_icmp_ge (pc2 := 23) hC 49 dX4_keepNew_20 (by decide) rfl (fun h2 => ?_) (fun h2 => ?_)
    · have hV := hV.1 h2
      exact jj_sub (lv2 := [(0, .ref (ad 3)), (1, .ref (ad 2)), (2, .ref (ad 1)), (4, .int x4), (5, .int x5)]) [0, 1, 2, 3, 4] rfl (hK49 x5 hV)
    · have hV := hV.2 h2
      refine jj_aload_n (pc2 := 24) hC dX4_keepNew_23 rfl 0 rfl rfl ?_
      refine jj_aload_n (pc2 := 25) hC dX4_keepNew_24 rfl 1 rfl rfl ?_
      refine cg_A_written (pc2 := 28) hC hi_X4_keepNew_X0 lk_X4_keepNew_3 dX4_keepNew_25 rfl ?_
      refine jj_iload (pc2 := 30) hC dX4_keepNew_28 5 rfl rfl ?_
      refine cl_A_written (pc2 := 31) hC hV.1 dX4_keepNew_30 rfl ?_
      have hV := hV.2
      refine jj_aload_n (pc2 := 32) hC dX4_keepNew_31 rfl 2 rfl rfl ?_
      refine jj_cVIp (pc2 := 35) (wd := wc_d Y X cs ad) (g := g) (rest := []) hC (Y.length + 3) (jx_at (V := wc_W cs ad g) rfl) rfl rfl (kc_X4_roomOf l D cs Y X ad (g.2.2 17 x6.toNatClampNeg) g _ hV) (cwV 2 hC.1.2.2.2.2 gX4_keepNew_X4_roomOf rfl rfl rfl (by decide +kernel) ⟨by show 0 + 1 ≤ 3; omega, by show 8 + (3 + 11) + 0 ≤ 86; omega⟩) rfl (Nat.le_of_ble_eq_true rfl) _ rfl dX4_keepNew_32 ⟨Nat.zero_le _, Nat.zero_le _⟩ rfl (fun r3 hV => ?_)
      refine jj_iload (pc2 := 37) hC dX4_keepNew_35 3 rfl rfl ?_
      refine jj_icmp_eq (pc2 := 40) hC 43 dX4_keepNew_37 (by decide) rfl (fun h4 => ?_) (fun h4 => ?_)
      · have hV := hV.1 h4
        refine jj_iinc (pc2 := 46) hC (x6 + 1) [(6, .int (x6 + 1)), (0, .ref (ad 3)), (1, .ref (ad 2)), (2, .ref (ad 1)), (4, .int x4), (5, .int x5)] dX4_keepNew_43 5 rfl rfl (by decide) rfl rfl ?_
        refine jj_goto hC 14 dX4_keepNew_46 (by decide) ?_
        exact jj_sub (lv2 := [(0, .ref (ad 3)), (1, .ref (ad 2)), (2, .ref (ad 1)), (4, .int x4), (5, .int x5), (6, .int (x6 + 1))]) [1, 2, 3, 4, 5, 0] rfl (ih x5 (x6 + 1) hV)
      · have hV := hV.2 h4
        refine jj_iinc (pc2 := 43) hC (x5 + 1) [(5, .int (x5 + 1)), (0, .ref (ad 3)), (1, .ref (ad 2)), (2, .ref (ad 1)), (4, .int x4), (6, .int x6)] dX4_keepNew_40 4 rfl rfl (by decide) rfl rfl ?_
        refine jj_iinc (pc2 := 46) hC (x6 + 1) [(6, .int (x6 + 1)), (5, .int (x5 + 1)), (0, .ref (ad 3)), (1, .ref (ad 2)), (2, .ref (ad 1)), (4, .int x4)] dX4_keepNew_43 5 rfl rfl (by decide) rfl rfl ?_
        refine jj_goto hC 14 dX4_keepNew_46 (by decide) ?_
        exact jj_sub (lv2 := [(0, .ref (ad 3)), (1, .ref (ad 2)), (2, .ref (ad 1)), (4, .int x4), (5, .int (x5 + 1)), (6, .int (x6 + 1))]) [2, 3, 4, 5, 1, 0] rfl (ih (x5 + 1) (x6 + 1) hV)
set_option maxHeartbeats 4000000 in
set_option maxRecDepth 100000 in
theorem ac_X4_keepNew_66 {p : Program} {l : Launch} {e : Env} {s : State} {m : MethodId} {args : Array Value} {below : List Frame} {meth : Method} {c : Code} {D : va_G} {cs : Nat → ClassId} {Y X : va_W} {ad : Nat → Nat} {g0 : cm_M} {MC MS : Nat} (hC : JC p s m args meth c D vwCl (va_A (wc_d Y X cs ad g0) s.heap.size) 9 cX4_keepNew (some .boolean) wsX4_keepNew RX4 (jt_tys cs)) (x4 : Int32) (Post : Int32 → cm_M → Prop) (K143 : Nat → Nat → cm_M → Prop) (hK143 : ∀ (uc us : Nat) (g : cm_M) , K143 uc us g → JJ (wc_d Y X cs ad) p l e (rm_X4_keepNew MC MS) s m args below meth c D vwCl (va_A (wc_d Y X cs ad g0) s.heap.size) 9 uc us (MQ below (jj_QI (wc_d Y X cs ad) D vwCl (jt_tys cs) g0 s.heap.size Post) args s MC MS (va_A (wc_d Y X cs ad g0) s.heap.size)) 143 [(0, .ref (ad 3))] [] g) : ∀ (f : Nat) (x6 : Int32) (uc : Nat) (us : Nat) (g : cm_M), vc_X4_keepNew_66 MC MS x4 K143 Post f x6 uc us g → JJ (wc_d Y X cs ad) p l e (rm_X4_keepNew MC MS) s m args below meth c D vwCl (va_A (wc_d Y X cs ad g0) s.heap.size) 9 uc us (MQ below (jj_QI (wc_d Y X cs ad) D vwCl (jt_tys cs) g0 s.heap.size Post) args s MC MS (va_A (wc_d Y X cs ad g0) s.heap.size)) 66 [(0, .ref (ad 3)), (1, .ref (ad 2)), (2, .ref (ad 1)), (4, .int x4), (6, .int x6)] [] g := by
  intro f
  induction f with
  | zero => intro x6 uc us g hV; exact hV.elim
  | succ f ih =>
    intro x6 uc us g hV
    rw [vc_X4_keepNew_66] at hV
    obtain ⟨huc, hus, hV⟩ := hV
    refine jj_iload (pc2 := 68) hC dX4_keepNew_66 4 rfl rfl ?_
    refine jj_aload_n (pc2 := 69) hC dX4_keepNew_68 rfl 1 rfl rfl ?_
    refine cg_A_writtenCount (pc2 := 72) hC hi_X4_keepNew_X0 lk_X4_keepNew_2 dX4_keepNew_69 rfl ?_
    refine jj_icmp_ge (pc2 := 75) hC 143 dX4_keepNew_72 (by decide) rfl (fun h8 => ?_) (fun h8 => ?_)
    · have hV := hV.1 h8
      exact jj_sub (lv2 := [(0, .ref (ad 3))]) [0] rfl (hK143 uc us g hV)
    · have hV := hV.2 h8
      refine jj_aload_n (pc2 := 76) hC dX4_keepNew_75 rfl 1 rfl rfl ?_
      refine cg_A_written (pc2 := 79) hC hi_X4_keepNew_X0 lk_X4_keepNew_3 dX4_keepNew_76 rfl ?_
      refine jj_iload (pc2 := 81) hC dX4_keepNew_79 4 rfl rfl ?_
      refine cl_A_written (pc2 := 82) hC hV.1 dX4_keepNew_81 rfl ?_
      have hV := hV.2
      refine jj_topi (fun y9 ey9 => ?_)
      have hV := hV y9 ey9
      refine jj_istore (pc2 := 84) hC [(7, .int y9), (0, .ref (ad 3)), (1, .ref (ad 2)), (2, .ref (ad 1)), (4, .int x4), (6, .int x6)] dX4_keepNew_82 (by decide) rfl rfl ?_
      refine jj_aload_n (pc2 := 85) hC dX4_keepNew_84 rfl 1 rfl rfl ?_
      refine jj_iload (pc2 := 87) hC dX4_keepNew_85 0 rfl rfl ?_
      refine jj_aload_n (pc2 := 88) hC dX4_keepNew_87 rfl 3 rfl rfl ?_
      refine jj_cVIp (pc2 := 91) (wd := wc_d Y X cs ad) (g := g) (rest := []) hC (Y.length + 3) (jx_at (V := wc_W cs ad g) rfl) rfl rfl (kc_X4_roomOf l D cs Y X ad y9 g _ hV) (cwV 2 hC.1.2.2.2.2 gX4_keepNew_X4_roomOf rfl rfl rfl (by decide +kernel) ⟨by show 0 + 1 ≤ 3; omega, by show 8 + (3 + 11) + 0 ≤ 86; omega⟩) rfl (Nat.le_of_ble_eq_true rfl) _ rfl dX4_keepNew_88 ⟨show uc ≤ MC by omega, show us ≤ MS by omega⟩ rfl (fun r10 hV => ?_)
      refine jj_istore (pc2 := 93) hC [(8, .int r10), (7, .int y9), (0, .ref (ad 3)), (1, .ref (ad 2)), (2, .ref (ad 1)), (4, .int x4), (6, .int x6)] dX4_keepNew_91 (by decide) rfl rfl ?_
      refine jj_iload (pc2 := 95) hC dX4_keepNew_93 0 rfl rfl ?_
      refine jj_iload (pc2 := 97) hC dX4_keepNew_95 5 rfl rfl ?_
      refine jj_icmp_ne (pc2 := 100) hC 117 dX4_keepNew_97 (by decide) rfl (fun h11 => ?_) (fun h11 => ?_)
      · have hV := hV.1 h11
        refine jj_aload_n (pc2 := 118) hC dX4_keepNew_117 rfl 2 rfl rfl ?_
        refine cg_H_letters (pc2 := 121) hC hi_X4_keepNew_X4 lk_X4_keepNew_4 dX4_keepNew_118 rfl ?_
        refine jj_iload (pc2 := 123) hC dX4_keepNew_121 1 rfl rfl ?_
        refine jj_aload_n (pc2 := 124) hC dX4_keepNew_123 rfl 3 rfl rfl ?_
        refine cg_A_cells (pc2 := 127) hC hi_X4_keepNew_X0 lk_X4_keepNew_6 dX4_keepNew_124 rfl ?_
        refine jj_iload (pc2 := 129) hC dX4_keepNew_127 1 rfl rfl ?_
        refine cl_A_cells (pc2 := 130) hC hV.1 dX4_keepNew_129 rfl ?_
        have hV := hV.2
        refine jj_iload (pc2 := 132) hC dX4_keepNew_130 5 rfl rfl ?_
        refine jj_iload (pc2 := 134) hC dX4_keepNew_132 0 rfl rfl ?_
        obtain ⟨mc14, ms15, hmc14, hms15, hV⟩ := hV
        refine jj_callVV (pc2 := 137) (wd := wc_d Y X cs ad) (g := g) (rest := []) hC (Y.length + 5) (jx_at (V := wc_W cs ad g) rfl) rfl rfl (kc_X6_send l D cs Y X ad mc14 ms15 y9 (g.2.2 15 y9.toNatClampNeg) x4 r10 g _ hV) (cwV 4 hC.1.2.2.2.2 gX4_keepNew_X6_send rfl rfl rfl (by decide +kernel) ⟨by show 2 + 1 ≤ 3; omega, by show 8 + (5 + 11) + 62 ≤ 86; omega⟩) rfl (Nat.le_of_ble_eq_true rfl) _ rfl dX4_keepNew_134 ⟨hmc14, hms15⟩ rfl (fun g13 hV => ?_)
        refine jj_iinc (pc2 := 140) hC (x6 + 1) [(6, .int (x6 + 1)), (8, .int r10), (7, .int y9), (0, .ref (ad 3)), (1, .ref (ad 2)), (2, .ref (ad 1)), (4, .int x4)] dX4_keepNew_137 6 rfl rfl (by decide) rfl rfl ?_
        refine jj_goto hC 66 dX4_keepNew_140 (by decide) ?_
        exact jj_sub (lv2 := [(0, .ref (ad 3)), (1, .ref (ad 2)), (2, .ref (ad 1)), (4, .int x4), (6, .int (x6 + 1))]) [3, 4, 5, 6, 0] rfl (ih (x6 + 1) (uc + mc14) (us + ms15) g13 hV)
      · have hV := hV.2 h11
        refine jj_aload_n (pc2 := 101) hC dX4_keepNew_100 rfl 2 rfl rfl ?_
        refine cg_H_newCells (pc2 := 104) hC hi_X4_keepNew_X4 lk_X4_keepNew_5 dX4_keepNew_101 rfl ?_
        refine jj_iload (pc2 := 106) hC dX4_keepNew_104 1 rfl rfl ?_
        refine jj_aload_n (pc2 := 107) hC dX4_keepNew_106 rfl 3 rfl rfl ?_
        refine cg_A_cells (pc2 := 110) hC hi_X4_keepNew_X0 lk_X4_keepNew_6 dX4_keepNew_107 rfl ?_
        refine jj_iload (pc2 := 112) hC dX4_keepNew_110 1 rfl rfl ?_
        refine cl_A_cells (pc2 := 113) hC hV.1 dX4_keepNew_112 rfl ?_
        have hV := hV.2
        refine ct_H_newCells (pc2 := 114) hC hV.1 dX4_keepNew_113 rfl (fun g16 eg16 => ?_)
        have hV := hV.2 g16 eg16
        refine jj_goto hC 137 dX4_keepNew_114 (by decide) ?_
        refine jj_iinc (pc2 := 140) hC (x6 + 1) [(6, .int (x6 + 1)), (8, .int r10), (7, .int y9), (0, .ref (ad 3)), (1, .ref (ad 2)), (2, .ref (ad 1)), (4, .int x4)] dX4_keepNew_137 6 rfl rfl (by decide) rfl rfl ?_
        refine jj_goto hC 66 dX4_keepNew_140 (by decide) ?_
        exact jj_sub (lv2 := [(0, .ref (ad 3)), (1, .ref (ad 2)), (2, .ref (ad 1)), (4, .int x4), (6, .int (x6 + 1))]) [3, 4, 5, 6, 0] rfl (ih (x6 + 1) uc us g16 hV)
set_option maxHeartbeats 4000000 in
set_option maxRecDepth 100000 in
theorem kc_X4_keepNew (l : Launch) (D : va_G) (cs : Nat → ClassId) (Y X : va_W) (ad : Nat → Nat) (MC : Nat) (MS : Nat) (a3 : Int32) (g0 : cm_M) (Post : Int32 → cm_M → Prop) (hV : vc_X4_keepNew MC MS a3 g0 Post) : JI (wc_d Y X cs ad) D vwCl (jt_tys cs) l yX4_keepNew wsX4_keepNew (rm_X4_keepNew MC MS) MC MS [.ref (ad 3), .ref (ad 2), .ref (ad 1), .int a3] g0 Post := by
  refine jj_metI (cc := cX4_keepNew) (nL := 9) (ret := (some .boolean)) (by decide) rfl (Nat.le_of_ble_eq_true rfl) [(0, .ref (ad 3)), (1, .ref (ad 2)), (2, .ref (ad 1)), (3, .int a3)] rfl ?_
  intro p e s m args below meth c hC hnm
  rw [vc_X4_keepNew] at hV
  refine jj_aload_n (pc2 := 1) hC dX4_keepNew_0 rfl 0 rfl rfl ?_
  refine cg_H_rooms (pc2 := 4) hC hi_X4_keepNew_X4 lk_X4_keepNew_1 dX4_keepNew_1 rfl ?_
  refine jj_iload_n (pc2 := 5) hC dX4_keepNew_4 rfl 3 rfl rfl ?_
  refine cl_H_rooms (pc2 := 6) hC hV.1 dX4_keepNew_5 rfl ?_
  have hV := hV.2
  refine jj_topi (fun y1 ey1 => ?_)
  have hV := hV y1 ey1
  refine jj_istore (pc2 := 8) hC [(4, .int y1), (0, .ref (ad 3)), (1, .ref (ad 2)), (2, .ref (ad 1)), (3, .int a3)] dX4_keepNew_6 (by decide) rfl rfl ?_
  refine jj_iconst (pc2 := 9) hC 0 dX4_keepNew_8 (by decide) rfl ?_
  refine jj_istore (pc2 := 11) hC [(5, .int 0), (4, .int y1), (0, .ref (ad 3)), (1, .ref (ad 2)), (2, .ref (ad 1)), (3, .int a3)] dX4_keepNew_9 (by decide) rfl rfl ?_
  refine jj_iconst (pc2 := 12) hC 0 dX4_keepNew_11 (by decide) rfl ?_
  refine jj_istore (pc2 := 14) hC [(6, .int 0), (5, .int 0), (4, .int y1), (0, .ref (ad 3)), (1, .ref (ad 2)), (2, .ref (ad 1)), (3, .int a3)] dX4_keepNew_12 (by decide) rfl rfl ?_
  obtain ⟨n22, hV⟩ := hV
  refine jj_sub (lv2 := [(0, .ref (ad 3)), (1, .ref (ad 2)), (2, .ref (ad 1)), (4, .int y1), (5, .int 0), (6, .int 0)]) [3, 4, 5, 2, 1, 0] rfl (ac_X4_keepNew_14 hC y1 g0 Post _ (fun y5 hV => ?_) n22 0 0 hV)
  refine jj_aload_n (pc2 := 50) hC dX4_keepNew_49 rfl 0 rfl rfl ?_
  refine cg_H_letters (pc2 := 53) hC hi_X4_keepNew_X4 lk_X4_keepNew_4 dX4_keepNew_50 rfl ?_
  refine jj_iload (pc2 := 55) hC dX4_keepNew_53 4 rfl rfl ?_
  refine jj_cVIp (pc2 := 58) (wd := wc_d Y X cs ad) (g := g0) (rest := []) hC (Y.length + 5) (jx_at (V := wc_W cs ad g0) rfl) rfl rfl (kc_X6_canTake l D cs Y X ad y5 g0 _ hV) (cwV 1 hC.1.2.2.2.2 gX4_keepNew_X6_canTake rfl rfl rfl (by decide +kernel) ⟨by show 0 + 1 ≤ 3; omega, by show 8 + (2 + 11) + 0 ≤ 86; omega⟩) rfl (Nat.le_of_ble_eq_true rfl) _ rfl dX4_keepNew_55 ⟨Nat.zero_le _, Nat.zero_le _⟩ rfl (fun r6 hV => ?_)
  refine jj_if_ne (pc2 := 61) hC 63 dX4_keepNew_58 (by decide) rfl (fun h7 => ?_) (fun h7 => ?_)
  · have hV := hV.1 h7
    refine jj_iconst (pc2 := 64) hC 0 dX4_keepNew_63 (by decide) rfl ?_
    refine jj_istore (pc2 := 66) hC [(6, .int 0), (0, .ref (ad 3)), (1, .ref (ad 2)), (2, .ref (ad 1)), (4, .int y1), (5, .int y5)] dX4_keepNew_64 (by decide) rfl rfl ?_
    obtain ⟨n21, hV⟩ := hV
    refine jj_sub (lv2 := [(0, .ref (ad 3)), (1, .ref (ad 2)), (2, .ref (ad 1)), (4, .int y1), (6, .int 0)]) [1, 2, 3, 4, 0] rfl (ac_X4_keepNew_66 hC y1 Post _ (fun uc18 us19 g17 hV => ?_) n21 0 0 0 g0 hV)
    refine jj_aload_n (pc2 := 144) hC dX4_keepNew_143 rfl 0 rfl rfl ?_
    refine jj_dup (pc2 := 145) hC dX4_keepNew_144 rfl rfl ?_
    refine cg_H_newActs (pc2 := 148) hC hi_X4_keepNew_X4 lk_X4_keepNew_7 dX4_keepNew_145 rfl ?_
    refine jj_iconst (pc2 := 149) hC 1 dX4_keepNew_148 (by decide) rfl ?_
    refine jj_iadd (pc2 := 150) hC dX4_keepNew_149 rfl ?_
    refine cp_H_newActs (pc2 := 153) hC hi_X4_keepNew_X4 lk_X4_keepNew_7 dX4_keepNew_150 rfl (fun g20 eg20 => ?_)
    have hV := hV g20 eg20
    refine jj_iconst (pc2 := 154) hC 1 dX4_keepNew_153 (by decide) rfl ?_
    obtain ⟨hb1, hb2, hV⟩ := hV
    refine jj_widen (k := MC) (n := MS) hb1 hb2 ?_
    exact jj_zret hC jj_nb1 dX4_keepNew_154 hV
  · have hV := hV.2 h7
    refine jj_iconst (pc2 := 62) hC 0 dX4_keepNew_61 (by decide) rfl ?_
    refine jj_widen (k := MC) (n := MS) (Nat.zero_le _) (Nat.zero_le _) ?_
    exact jj_zret hC jj_nb0 dX4_keepNew_62 hV
theorem hi_X10_standsInOld_X10 : ∀ w ∈ u_ws RX10 TX10 13, w ∈ wsX10_standsInOld := fun _ h => List.mem_cons_of_mem _ (List.mem_append_left _ (List.mem_append_left _ (List.mem_append_left _ (List.mem_append_left _ (List.mem_append_right _ h)))))
theorem lk_X10_standsInOld_2 : Cond.fieldLink RX10 12 "PartedHouse" "text" "LPartedHouse$Text;" ∈ wsX10_standsInOld := List.mem_of_getElem? (i := 2) rfl
theorem lk_X10_standsInOld_1 : Cond.fieldLink RX10 19 "PartedHouse" "doer" "LPartedHouse$Act;" ∈ wsX10_standsInOld := List.mem_of_getElem? (i := 1) rfl
theorem lk_X10_standsInOld_3 : Cond.fieldLink RX10 26 "PartedHouse" "now" "LPartedHouse$Houses;" ∈ wsX10_standsInOld := List.mem_of_getElem? (i := 3) rfl
theorem hi_X10_standsInOld_X4 : ∀ w ∈ u_ws RX4 TX4 11, w ∈ wsX10_standsInOld := fun _ h => List.mem_cons_of_mem _ (List.mem_append_left _ (List.mem_append_left _ (List.mem_append_left _ (List.mem_append_right _ h))))
theorem lk_X10_standsInOld_4 : Cond.fieldLink RX10 299 "PartedHouse$Houses" "oldCells" "[I" ∈ wsX10_standsInOld := List.mem_of_getElem? (i := 4) rfl
abbrev rm_X10_standsInOld (MC MS : Nat) : Room := { frames := 4, cells := MC, slots := MS, locals := 109 }
def vc_X10_standsInOld (MC : Nat) (MS : Nat) (a1 : Int32) (a2 : Int32) (g0 : cm_M) (Post : Int32 → cm_M → Prop) : Prop := vc_X0_perform 25 a1 a2 g0 (fun (r1 : Int32) (g2 : cm_M) => ((¬ r1 = 0) → (∃ mc6 ms7 : Nat, (0 + mc6 ≤ MC) ∧ (0 + ms7 ≤ MS) ∧ (vc_X4_keepOld mc6 ms7 g2 (fun (g5 : cm_M) => (0 + mc6 ≤ MC) ∧ (0 + ms7 ≤ MS) ∧ (Post 1 g5))))) ∧ ((r1 = 0) → (Post 0 g2)))
set_option maxHeartbeats 4000000 in
set_option maxRecDepth 100000 in
theorem kc_X10_standsInOld (l : Launch) (D : va_G) (cs : Nat → ClassId) (Y X : va_W) (ad : Nat → Nat) (MC : Nat) (MS : Nat) (a1 : Int32) (a2 : Int32) (g0 : cm_M) (Post : Int32 → cm_M → Prop) (hV : vc_X10_standsInOld MC MS a1 a2 g0 Post) : JI (wc_d Y X cs ad) D vwCl (jt_tys cs) l yX10_standsInOld wsX10_standsInOld (rm_X10_standsInOld MC MS) MC MS [.ref (ad 0), .int a1, .int a2] g0 Post := by
  refine jj_metI (cc := cX10_standsInOld) (nL := 3) (ret := (some .boolean)) (by decide) rfl (Nat.le_of_ble_eq_true rfl) [(0, .ref (ad 0)), (1, .int a1), (2, .int a2)] rfl ?_
  intro p e s m args below meth c hC hnm
  rw [vc_X10_standsInOld] at hV
  refine jj_aload_n (pc2 := 1) hC dX10_standsInOld_0 rfl 0 rfl rfl ?_
  refine cg_M_doer (pc2 := 4) hC hi_X10_standsInOld_X10 lk_X10_standsInOld_1 dX10_standsInOld_1 rfl ?_
  refine jj_aload_n (pc2 := 5) hC dX10_standsInOld_4 rfl 0 rfl rfl ?_
  refine cg_M_text (pc2 := 8) hC hi_X10_standsInOld_X10 lk_X10_standsInOld_2 dX10_standsInOld_5 rfl ?_
  refine jj_iload_n (pc2 := 9) hC dX10_standsInOld_8 rfl 1 rfl rfl ?_
  refine jj_iload_n (pc2 := 10) hC dX10_standsInOld_9 rfl 2 rfl rfl ?_
  refine jj_aload_n (pc2 := 11) hC dX10_standsInOld_10 rfl 0 rfl rfl ?_
  refine cg_M_now (pc2 := 14) hC hi_X10_standsInOld_X10 lk_X10_standsInOld_3 dX10_standsInOld_11 rfl ?_
  refine cg_H_oldCells (pc2 := 17) hC hi_X10_standsInOld_X4 lk_X10_standsInOld_4 dX10_standsInOld_14 rfl ?_
  refine jj_cVI (pc2 := 20) (wd := wc_d Y X cs ad) (g := g0) (rest := []) hC (Y.length + 2) (jx_at (V := wc_W cs ad g0) rfl) rfl rfl (kc_X0_perform_oldCells l D cs Y X ad a1 a2 g0 _ hV) (cwV 4 hC.1.2.2.2.2 gX10_standsInOld_X0_perform rfl rfl rfl (by decide +kernel) ⟨by show 3 + 1 ≤ 4; omega, by show 8 + (6 + 11) + 71 ≤ 109; omega⟩) rfl (Nat.le_of_ble_eq_true rfl) _ rfl dX10_standsInOld_17 ⟨Nat.zero_le _, Nat.zero_le _⟩ rfl (fun r1 g2 hV => ?_)
  refine jj_if_ne (pc2 := 23) hC 25 dX10_standsInOld_20 (by decide) rfl (fun h3 => ?_) (fun h3 => ?_)
  · have hV := hV.1 h3
    refine jj_aload_n (pc2 := 26) hC dX10_standsInOld_25 rfl 0 rfl rfl ?_
    refine cg_M_now (pc2 := 29) hC hi_X10_standsInOld_X10 lk_X10_standsInOld_3 dX10_standsInOld_26 rfl ?_
    refine jj_aload_n (pc2 := 30) hC dX10_standsInOld_29 rfl 0 rfl rfl ?_
    refine cg_M_doer (pc2 := 33) hC hi_X10_standsInOld_X10 lk_X10_standsInOld_1 dX10_standsInOld_30 rfl ?_
    refine jj_aload_n (pc2 := 34) hC dX10_standsInOld_33 rfl 0 rfl rfl ?_
    refine cg_M_text (pc2 := 37) hC hi_X10_standsInOld_X10 lk_X10_standsInOld_2 dX10_standsInOld_34 rfl ?_
    obtain ⟨mc6, ms7, hmc6, hms7, hV⟩ := hV
    refine jj_callVV (pc2 := 40) (wd := wc_d Y X cs ad) (g := g2) (rest := []) hC (Y.length + 3) (jx_at (V := wc_W cs ad g2) rfl) rfl rfl (kc_X4_keepOld l D cs Y X ad mc6 ms7  g2 _ hV) (cwV 2 hC.1.2.2.2.2 gX10_standsInOld_X4_keepOld rfl rfl rfl (by decide +kernel) ⟨by show 3 + 1 ≤ 4; omega, by show 8 + (6 + 11) + 84 ≤ 109; omega⟩) rfl (Nat.le_of_ble_eq_true rfl) _ rfl dX10_standsInOld_37 ⟨hmc6, hms7⟩ rfl (fun g5 hV => ?_)
    refine jj_iconst (pc2 := 41) hC 1 dX10_standsInOld_40 (by decide) rfl ?_
    obtain ⟨hb1, hb2, hV⟩ := hV
    refine jj_widen (k := MC) (n := MS) hb1 hb2 ?_
    exact jj_zret hC jj_nb1 dX10_standsInOld_41 hV
  · have hV := hV.2 h3
    refine jj_iconst (pc2 := 24) hC 0 dX10_standsInOld_23 (by decide) rfl ?_
    refine jj_widen (k := MC) (n := MS) (Nat.zero_le _) (Nat.zero_le _) ?_
    exact jj_zret hC jj_nb0 dX10_standsInOld_24 hV
theorem lk_X10_run_4 : Cond.constant RX10 140 (-2000000000) ∈ wsX10_run := List.mem_of_getElem? (i := 4) rfl
theorem hi_X10_run_X0 : ∀ w ∈ u_ws RX0 TX0 10, w ∈ wsX10_run := fun _ h => List.mem_cons_of_mem _ (List.mem_append_left _ (List.mem_append_left _ (List.mem_append_left _ (List.mem_append_right _ h))))
theorem lk_X10_run_3 : Cond.fieldLink RX10 137 "PartedHouse$Act" "value" "I" ∈ wsX10_run := List.mem_of_getElem? (i := 3) rfl
theorem hi_X10_run_X10 : ∀ w ∈ u_ws RX10 TX10 13, w ∈ wsX10_run := fun _ h => List.mem_cons_of_mem _ (List.mem_append_left _ (List.mem_append_left _ (List.mem_append_left _ (List.mem_append_left _ (List.mem_append_right _ h)))))
theorem lk_X10_run_2 : Cond.fieldLink RX10 19 "PartedHouse" "doer" "LPartedHouse$Act;" ∈ wsX10_run := List.mem_of_getElem? (i := 2) rfl
theorem lk_X10_run_1 : Cond.fieldLink RX10 12 "PartedHouse" "text" "LPartedHouse$Text;" ∈ wsX10_run := List.mem_of_getElem? (i := 1) rfl
abbrev rm_X10_run (MC MS : Nat) : Room := { frames := 5, cells := MC, slots := MS, locals := 131 }
def vc_X10_run (MC : Nat) (MS : Nat) (a1 : Int32) (a2 : Int32) (g0 : cm_M) (Post : Int32 → cm_M → Prop) : Prop := vc_X9_hasRoutine a1 g0 (fun (r1 : Int32) => ((¬ r1 = 0) → (∃ mc5 ms6 : Nat, (0 + mc5 ≤ MC) ∧ (0 + ms6 ≤ MS) ∧ (vc_X10_standsInOld mc5 ms6 a1 a2 g0 (fun (r3 : Int32) (g4 : cm_M) => ((r3 = 0) → ((0 + mc5 ≤ MC) ∧ (0 + ms6 ≤ MS) ∧ (Post (-2000000000) g4))) ∧ ((¬ r3 = 0) → ((0 + mc5 ≤ MC) ∧ (0 + ms6 ≤ MS) ∧ (Post (g4.2.2 24 0) g4))))))) ∧ ((r1 = 0) → (Post (-1) g0)))
set_option maxHeartbeats 4000000 in
set_option maxRecDepth 100000 in
theorem kc_X10_run (l : Launch) (D : va_G) (cs : Nat → ClassId) (Y X : va_W) (ad : Nat → Nat) (MC : Nat) (MS : Nat) (a1 : Int32) (a2 : Int32) (g0 : cm_M) (Post : Int32 → cm_M → Prop) (hV : vc_X10_run MC MS a1 a2 g0 Post) : JI (wc_d Y X cs ad) D vwCl (jt_tys cs) l yX10_run wsX10_run (rm_X10_run MC MS) MC MS [.ref (ad 0), .int a1, .int a2] g0 Post := by
  refine jj_metI (cc := cX10_run) (nL := 3) (ret := (some .int)) (by decide) rfl (Nat.le_of_ble_eq_true rfl) [(0, .ref (ad 0)), (1, .int a1), (2, .int a2)] rfl ?_
  intro p e s m args below meth c hC hnm
  rw [vc_X10_run] at hV
  refine jj_aload_n (pc2 := 1) hC dX10_run_0 rfl 0 rfl rfl ?_
  refine cg_M_text (pc2 := 4) hC hi_X10_run_X10 lk_X10_run_1 dX10_run_1 rfl ?_
  refine jj_iload_n (pc2 := 5) hC dX10_run_4 rfl 1 rfl rfl ?_
  refine jj_cVIp (pc2 := 8) (wd := wc_d Y X cs ad) (g := g0) (rest := []) hC (Y.length + 1) (jx_at (V := wc_W cs ad g0) rfl) rfl rfl (kc_X9_hasRoutine l D cs Y X ad a1 g0 _ hV) (cwV 1 hC.1.2.2.2.2 gX10_run_X9_hasRoutine rfl rfl rfl (by decide +kernel) ⟨by show 0 + 1 ≤ 5; omega, by show 8 + (2 + 11) + 0 ≤ 131; omega⟩) rfl (Nat.le_of_ble_eq_true rfl) _ rfl dX10_run_5 ⟨Nat.zero_le _, Nat.zero_le _⟩ rfl (fun r1 hV => ?_)
  refine jj_if_ne (pc2 := 11) hC 13 dX10_run_8 (by decide) rfl (fun h2 => ?_) (fun h2 => ?_)
  · have hV := hV.1 h2
    refine jj_aload_n (pc2 := 14) hC dX10_run_13 rfl 0 rfl rfl ?_
    refine jj_iload_n (pc2 := 15) hC dX10_run_14 rfl 1 rfl rfl ?_
    refine jj_iload_n (pc2 := 16) hC dX10_run_15 rfl 2 rfl rfl ?_
    obtain ⟨mc5, ms6, hmc5, hms6, hV⟩ := hV
    refine jj_callVI (pc2 := 19) (wd := wc_d Y X cs ad) (g := g0) (rest := []) hC (Y.length + 0) (jx_at (V := wc_W cs ad g0) rfl) rfl rfl (kc_X10_standsInOld l D cs Y X ad mc5 ms6 a1 a2 g0 _ hV) (cwV 2 hC.1.2.2.2.2 gX10_run_X10_standsInOld rfl rfl rfl (by decide +kernel) ⟨by show 4 + 1 ≤ 5; omega, by show 8 + (3 + 11) + 109 ≤ 131; omega⟩) rfl (Nat.le_of_ble_eq_true rfl) _ rfl dX10_run_16 ⟨hmc5, hms6⟩ rfl (fun r3 g4 hV => ?_)
    refine jj_if_eq (pc2 := 22) hC 32 dX10_run_19 (by decide) rfl (fun h7 => ?_) (fun h7 => ?_)
    · have hV := hV.1 h7
      refine jj_ldc (pc2 := 34) hC lk_X10_run_4 dX10_run_32 rfl ?_
      obtain ⟨hb1, hb2, hV⟩ := hV
      refine jj_widen (k := MC) (n := MS) hb1 hb2 ?_
      exact jj_iret hC dX10_run_34 hV
    · have hV := hV.2 h7
      refine jj_aload_n (pc2 := 23) hC dX10_run_22 rfl 0 rfl rfl ?_
      refine cg_M_doer (pc2 := 26) hC hi_X10_run_X10 lk_X10_run_2 dX10_run_23 rfl ?_
      refine cg_A_value (pc2 := 29) hC hi_X10_run_X0 lk_X10_run_3 dX10_run_26 rfl ?_
      refine jj_goto hC 34 dX10_run_29 (by decide) ?_
      obtain ⟨hb1, hb2, hV⟩ := hV
      refine jj_widen (k := MC) (n := MS) hb1 hb2 ?_
      exact jj_iret hC dX10_run_34 hV
  · have hV := hV.2 h2
    refine jj_iconst (pc2 := 12) hC (-1) dX10_run_11 (by decide) rfl ?_
    refine jj_widen (k := MC) (n := MS) (Nat.zero_le _) (Nat.zero_le _) ?_
    exact jj_iret hC dX10_run_12 hV
theorem hi_X10_standsInNew_X9 : ∀ w ∈ u_ws RX9 TX9 11, w ∈ wsX10_standsInNew := fun _ h => List.mem_cons_of_mem _ (List.mem_append_left _ (List.mem_append_left _ (List.mem_append_right _ h)))
theorem lk_X10_standsInNew_5 : Cond.fieldLink RX10 310 "PartedHouse$Text" "owners" "[I" ∈ wsX10_standsInNew := List.mem_of_getElem? (i := 5) rfl
theorem hi_X10_standsInNew_X10 : ∀ w ∈ u_ws RX10 TX10 13, w ∈ wsX10_standsInNew := fun _ h => List.mem_cons_of_mem _ (List.mem_append_left _ (List.mem_append_left _ (List.mem_append_left _ (List.mem_append_left _ (List.mem_append_right _ h)))))
theorem lk_X10_standsInNew_2 : Cond.fieldLink RX10 12 "PartedHouse" "text" "LPartedHouse$Text;" ∈ wsX10_standsInNew := List.mem_of_getElem? (i := 2) rfl
theorem lk_X10_standsInNew_1 : Cond.fieldLink RX10 19 "PartedHouse" "doer" "LPartedHouse$Act;" ∈ wsX10_standsInNew := List.mem_of_getElem? (i := 1) rfl
theorem lk_X10_standsInNew_3 : Cond.fieldLink RX10 26 "PartedHouse" "now" "LPartedHouse$Houses;" ∈ wsX10_standsInNew := List.mem_of_getElem? (i := 3) rfl
theorem hi_X10_standsInNew_X4 : ∀ w ∈ u_ws RX4 TX4 11, w ∈ wsX10_standsInNew := fun _ h => List.mem_cons_of_mem _ (List.mem_append_left _ (List.mem_append_left _ (List.mem_append_left _ (List.mem_append_right _ h))))
theorem lk_X10_standsInNew_4 : Cond.fieldLink RX10 216 "PartedHouse$Houses" "newCells" "[I" ∈ wsX10_standsInNew := List.mem_of_getElem? (i := 4) rfl
abbrev rm_X10_standsInNew (MC MS : Nat) : Room := { frames := 4, cells := MC, slots := MS, locals := 114 }
def vc_X10_standsInNew (MC : Nat) (MS : Nat) (a1 : Int32) (a2 : Int32) (g0 : cm_M) (Post : Int32 → cm_M → Prop) : Prop := vc_X0_perform 26 a1 a2 g0 (fun (r1 : Int32) (g2 : cm_M) => ((r1 = 0) → (Post 0 g2)) ∧ ((¬ r1 = 0) → ((vp_in a1 40) ∧ (∃ mc6 ms7 : Nat, (0 + mc6 ≤ MC) ∧ (0 + ms7 ≤ MS) ∧ (vc_X4_keepNew mc6 ms7 (g2.2.2 6 a1.toNatClampNeg) g2 (fun (r4 : Int32) (g5 : cm_M) => ((r4 = 0) → ((0 + mc6 ≤ MC) ∧ (0 + ms7 ≤ MS) ∧ (Post 0 g5))) ∧ ((¬ r4 = 0) → ((0 + mc6 ≤ MC) ∧ (0 + ms7 ≤ MS) ∧ (Post 1 g5)))))))))
set_option maxHeartbeats 4000000 in
set_option maxRecDepth 100000 in
theorem kc_X10_standsInNew (l : Launch) (D : va_G) (cs : Nat → ClassId) (Y X : va_W) (ad : Nat → Nat) (MC : Nat) (MS : Nat) (a1 : Int32) (a2 : Int32) (g0 : cm_M) (Post : Int32 → cm_M → Prop) (hV : vc_X10_standsInNew MC MS a1 a2 g0 Post) : JI (wc_d Y X cs ad) D vwCl (jt_tys cs) l yX10_standsInNew wsX10_standsInNew (rm_X10_standsInNew MC MS) MC MS [.ref (ad 0), .int a1, .int a2] g0 Post := by
  refine jj_metI (cc := cX10_standsInNew) (nL := 3) (ret := (some .boolean)) (by decide) rfl (Nat.le_of_ble_eq_true rfl) [(0, .ref (ad 0)), (1, .int a1), (2, .int a2)] rfl ?_
  intro p e s m args below meth c hC hnm
  rw [vc_X10_standsInNew] at hV
  refine jj_aload_n (pc2 := 1) hC dX10_standsInNew_0 rfl 0 rfl rfl ?_
  refine cg_M_doer (pc2 := 4) hC hi_X10_standsInNew_X10 lk_X10_standsInNew_1 dX10_standsInNew_1 rfl ?_
  refine jj_aload_n (pc2 := 5) hC dX10_standsInNew_4 rfl 0 rfl rfl ?_
  refine cg_M_text (pc2 := 8) hC hi_X10_standsInNew_X10 lk_X10_standsInNew_2 dX10_standsInNew_5 rfl ?_
  refine jj_iload_n (pc2 := 9) hC dX10_standsInNew_8 rfl 1 rfl rfl ?_
  refine jj_iload_n (pc2 := 10) hC dX10_standsInNew_9 rfl 2 rfl rfl ?_
  refine jj_aload_n (pc2 := 11) hC dX10_standsInNew_10 rfl 0 rfl rfl ?_
  refine cg_M_now (pc2 := 14) hC hi_X10_standsInNew_X10 lk_X10_standsInNew_3 dX10_standsInNew_11 rfl ?_
  refine cg_H_newCells (pc2 := 17) hC hi_X10_standsInNew_X4 lk_X10_standsInNew_4 dX10_standsInNew_14 rfl ?_
  refine jj_cVI (pc2 := 20) (wd := wc_d Y X cs ad) (g := g0) (rest := []) hC (Y.length + 2) (jx_at (V := wc_W cs ad g0) rfl) rfl rfl (kc_X0_perform_newCells l D cs Y X ad a1 a2 g0 _ hV) (cwV 4 hC.1.2.2.2.2 gX10_standsInNew_X0_perform rfl rfl rfl (by decide +kernel) ⟨by show 3 + 1 ≤ 4; omega, by show 8 + (6 + 11) + 71 ≤ 114; omega⟩) rfl (Nat.le_of_ble_eq_true rfl) _ rfl dX10_standsInNew_17 ⟨Nat.zero_le _, Nat.zero_le _⟩ rfl (fun r1 g2 hV => ?_)
  refine jj_if_eq (pc2 := 23) hC 54 dX10_standsInNew_20 (by decide) rfl (fun h3 => ?_) (fun h3 => ?_)
  · have hV := hV.1 h3
    refine jj_iconst (pc2 := 55) hC 0 dX10_standsInNew_54 (by decide) rfl ?_
    refine jj_widen (k := MC) (n := MS) (Nat.zero_le _) (Nat.zero_le _) ?_
    exact jj_zret hC jj_nb0 dX10_standsInNew_55 hV
  · have hV := hV.2 h3
    refine jj_aload_n (pc2 := 24) hC dX10_standsInNew_23 rfl 0 rfl rfl ?_
    refine cg_M_now (pc2 := 27) hC hi_X10_standsInNew_X10 lk_X10_standsInNew_3 dX10_standsInNew_24 rfl ?_
    refine jj_aload_n (pc2 := 28) hC dX10_standsInNew_27 rfl 0 rfl rfl ?_
    refine cg_M_doer (pc2 := 31) hC hi_X10_standsInNew_X10 lk_X10_standsInNew_1 dX10_standsInNew_28 rfl ?_
    refine jj_aload_n (pc2 := 32) hC dX10_standsInNew_31 rfl 0 rfl rfl ?_
    refine cg_M_text (pc2 := 35) hC hi_X10_standsInNew_X10 lk_X10_standsInNew_2 dX10_standsInNew_32 rfl ?_
    refine jj_aload_n (pc2 := 36) hC dX10_standsInNew_35 rfl 0 rfl rfl ?_
    refine cg_M_text (pc2 := 39) hC hi_X10_standsInNew_X10 lk_X10_standsInNew_2 dX10_standsInNew_36 rfl ?_
    refine cg_T_owners (pc2 := 42) hC hi_X10_standsInNew_X9 lk_X10_standsInNew_5 dX10_standsInNew_39 rfl ?_
    refine jj_iload_n (pc2 := 43) hC dX10_standsInNew_42 rfl 1 rfl rfl ?_
    refine cl_T_owners (pc2 := 44) hC hV.1 dX10_standsInNew_43 rfl ?_
    have hV := hV.2
    obtain ⟨mc6, ms7, hmc6, hms7, hV⟩ := hV
    refine jj_callVI (pc2 := 47) (wd := wc_d Y X cs ad) (g := g2) (rest := []) hC (Y.length + 3) (jx_at (V := wc_W cs ad g2) rfl) rfl rfl (kc_X4_keepNew l D cs Y X ad mc6 ms7 (g2.2.2 6 a1.toNatClampNeg) g2 _ hV) (cwV 3 hC.1.2.2.2.2 gX10_standsInNew_X4_keepNew rfl rfl rfl (by decide +kernel) ⟨by show 3 + 1 ≤ 4; omega, by show 8 + (9 + 11) + 86 ≤ 114; omega⟩) rfl (Nat.le_of_ble_eq_true rfl) _ rfl dX10_standsInNew_44 ⟨hmc6, hms7⟩ rfl (fun r4 g5 hV => ?_)
    refine jj_if_eq (pc2 := 50) hC 54 dX10_standsInNew_47 (by decide) rfl (fun h8 => ?_) (fun h8 => ?_)
    · have hV := hV.1 h8
      refine jj_iconst (pc2 := 55) hC 0 dX10_standsInNew_54 (by decide) rfl ?_
      obtain ⟨hb1, hb2, hV⟩ := hV
      refine jj_widen (k := MC) (n := MS) hb1 hb2 ?_
      exact jj_zret hC jj_nb0 dX10_standsInNew_55 hV
    · have hV := hV.2 h8
      refine jj_iconst (pc2 := 51) hC 1 dX10_standsInNew_50 (by decide) rfl ?_
      refine jj_goto hC 55 dX10_standsInNew_51 (by decide) ?_
      obtain ⟨hb1, hb2, hV⟩ := hV
      refine jj_widen (k := MC) (n := MS) hb1 hb2 ?_
      exact jj_zret hC jj_nb1 dX10_standsInNew_55 hV
theorem lk_X10_act_4 : Cond.constant RX10 140 (-2000000000) ∈ wsX10_act := List.mem_of_getElem? (i := 4) rfl
theorem hi_X10_act_X0 : ∀ w ∈ u_ws RX0 TX0 10, w ∈ wsX10_act := fun _ h => List.mem_cons_of_mem _ (List.mem_append_left _ (List.mem_append_left _ (List.mem_append_left _ (List.mem_append_right _ h))))
theorem lk_X10_act_3 : Cond.fieldLink RX10 137 "PartedHouse$Act" "value" "I" ∈ wsX10_act := List.mem_of_getElem? (i := 3) rfl
theorem hi_X10_act_X10 : ∀ w ∈ u_ws RX10 TX10 13, w ∈ wsX10_act := fun _ h => List.mem_cons_of_mem _ (List.mem_append_left _ (List.mem_append_left _ (List.mem_append_left _ (List.mem_append_left _ (List.mem_append_right _ h)))))
theorem lk_X10_act_2 : Cond.fieldLink RX10 19 "PartedHouse" "doer" "LPartedHouse$Act;" ∈ wsX10_act := List.mem_of_getElem? (i := 2) rfl
theorem lk_X10_act_1 : Cond.fieldLink RX10 12 "PartedHouse" "text" "LPartedHouse$Text;" ∈ wsX10_act := List.mem_of_getElem? (i := 1) rfl
abbrev rm_X10_act (MC MS : Nat) : Room := { frames := 5, cells := MC, slots := MS, locals := 136 }
def vc_X10_act (MC : Nat) (MS : Nat) (a1 : Int32) (a2 : Int32) (g0 : cm_M) (Post : Int32 → cm_M → Prop) : Prop := vc_X9_hasRoutine a1 g0 (fun (r1 : Int32) => ((¬ r1 = 0) → (∃ mc5 ms6 : Nat, (0 + mc5 ≤ MC) ∧ (0 + ms6 ≤ MS) ∧ (vc_X10_standsInNew mc5 ms6 a1 a2 g0 (fun (r3 : Int32) (g4 : cm_M) => ((r3 = 0) → ((0 + mc5 ≤ MC) ∧ (0 + ms6 ≤ MS) ∧ (Post (-2000000000) g4))) ∧ ((¬ r3 = 0) → ((0 + mc5 ≤ MC) ∧ (0 + ms6 ≤ MS) ∧ (Post (g4.2.2 24 0) g4))))))) ∧ ((r1 = 0) → (Post (-1) g0)))
set_option maxHeartbeats 4000000 in
set_option maxRecDepth 100000 in
theorem kc_X10_act (l : Launch) (D : va_G) (cs : Nat → ClassId) (Y X : va_W) (ad : Nat → Nat) (MC : Nat) (MS : Nat) (a1 : Int32) (a2 : Int32) (g0 : cm_M) (Post : Int32 → cm_M → Prop) (hV : vc_X10_act MC MS a1 a2 g0 Post) : JI (wc_d Y X cs ad) D vwCl (jt_tys cs) l yX10_act wsX10_act (rm_X10_act MC MS) MC MS [.ref (ad 0), .int a1, .int a2] g0 Post := by
  refine jj_metI (cc := cX10_act) (nL := 3) (ret := (some .int)) (by decide) rfl (Nat.le_of_ble_eq_true rfl) [(0, .ref (ad 0)), (1, .int a1), (2, .int a2)] rfl ?_
  intro p e s m args below meth c hC hnm
  rw [vc_X10_act] at hV
  refine jj_aload_n (pc2 := 1) hC dX10_act_0 rfl 0 rfl rfl ?_
  refine cg_M_text (pc2 := 4) hC hi_X10_act_X10 lk_X10_act_1 dX10_act_1 rfl ?_
  refine jj_iload_n (pc2 := 5) hC dX10_act_4 rfl 1 rfl rfl ?_
  refine jj_cVIp (pc2 := 8) (wd := wc_d Y X cs ad) (g := g0) (rest := []) hC (Y.length + 1) (jx_at (V := wc_W cs ad g0) rfl) rfl rfl (kc_X9_hasRoutine l D cs Y X ad a1 g0 _ hV) (cwV 1 hC.1.2.2.2.2 gX10_act_X9_hasRoutine rfl rfl rfl (by decide +kernel) ⟨by show 0 + 1 ≤ 5; omega, by show 8 + (2 + 11) + 0 ≤ 136; omega⟩) rfl (Nat.le_of_ble_eq_true rfl) _ rfl dX10_act_5 ⟨Nat.zero_le _, Nat.zero_le _⟩ rfl (fun r1 hV => ?_)
  refine jj_if_ne (pc2 := 11) hC 13 dX10_act_8 (by decide) rfl (fun h2 => ?_) (fun h2 => ?_)
  · have hV := hV.1 h2
    refine jj_aload_n (pc2 := 14) hC dX10_act_13 rfl 0 rfl rfl ?_
    refine jj_iload_n (pc2 := 15) hC dX10_act_14 rfl 1 rfl rfl ?_
    refine jj_iload_n (pc2 := 16) hC dX10_act_15 rfl 2 rfl rfl ?_
    obtain ⟨mc5, ms6, hmc5, hms6, hV⟩ := hV
    refine jj_callVI (pc2 := 19) (wd := wc_d Y X cs ad) (g := g0) (rest := []) hC (Y.length + 0) (jx_at (V := wc_W cs ad g0) rfl) rfl rfl (kc_X10_standsInNew l D cs Y X ad mc5 ms6 a1 a2 g0 _ hV) (cwV 2 hC.1.2.2.2.2 gX10_act_X10_standsInNew rfl rfl rfl (by decide +kernel) ⟨by show 4 + 1 ≤ 5; omega, by show 8 + (3 + 11) + 114 ≤ 136; omega⟩) rfl (Nat.le_of_ble_eq_true rfl) _ rfl dX10_act_16 ⟨hmc5, hms6⟩ rfl (fun r3 g4 hV => ?_)
    refine jj_if_eq (pc2 := 22) hC 32 dX10_act_19 (by decide) rfl (fun h7 => ?_) (fun h7 => ?_)
    · have hV := hV.1 h7
      refine jj_ldc (pc2 := 34) hC lk_X10_act_4 dX10_act_32 rfl ?_
      obtain ⟨hb1, hb2, hV⟩ := hV
      refine jj_widen (k := MC) (n := MS) hb1 hb2 ?_
      exact jj_iret hC dX10_act_34 hV
    · have hV := hV.2 h7
      refine jj_aload_n (pc2 := 23) hC dX10_act_22 rfl 0 rfl rfl ?_
      refine cg_M_doer (pc2 := 26) hC hi_X10_act_X10 lk_X10_act_2 dX10_act_23 rfl ?_
      refine cg_A_value (pc2 := 29) hC hi_X10_act_X0 lk_X10_act_3 dX10_act_26 rfl ?_
      refine jj_goto hC 34 dX10_act_29 (by decide) ?_
      obtain ⟨hb1, hb2, hV⟩ := hV
      refine jj_widen (k := MC) (n := MS) hb1 hb2 ?_
      exact jj_iret hC dX10_act_34 hV
  · have hV := hV.2 h2
    refine jj_iconst (pc2 := 12) hC (-1) dX10_act_11 (by decide) rfl ?_
    refine jj_widen (k := MC) (n := MS) (Nat.zero_le _) (Nat.zero_le _) ?_
    exact jj_iret hC dX10_act_12 hV
theorem lk_X10_beside_4 : Cond.constant RX10 140 (-2000000000) ∈ wsX10_beside := List.mem_of_getElem? (i := 4) rfl
theorem hi_X10_beside_X4 : ∀ w ∈ u_ws RX4 TX4 11, w ∈ wsX10_beside := fun _ h => List.mem_cons_of_mem _ (List.mem_append_left _ (List.mem_append_left _ (List.mem_append_left _ (List.mem_append_right _ h))))
theorem lk_X10_beside_6 : Cond.fieldLink RX10 269 "PartedHouse$Houses" "besides" "I" ∈ wsX10_beside := List.mem_of_getElem? (i := 6) rfl
theorem hi_X10_beside_X10 : ∀ w ∈ u_ws RX10 TX10 13, w ∈ wsX10_beside := fun _ h => List.mem_cons_of_mem _ (List.mem_append_left _ (List.mem_append_left _ (List.mem_append_left _ (List.mem_append_left _ (List.mem_append_left _ (List.mem_append_right _ h))))))
theorem lk_X10_beside_5 : Cond.fieldLink RX10 26 "PartedHouse" "now" "LPartedHouse$Houses;" ∈ wsX10_beside := List.mem_of_getElem? (i := 5) rfl
theorem hi_X10_beside_X0 : ∀ w ∈ u_ws RX0 TX0 10, w ∈ wsX10_beside := fun _ h => List.mem_cons_of_mem _ (List.mem_append_left _ (List.mem_append_left _ (List.mem_append_left _ (List.mem_append_left _ (List.mem_append_right _ h)))))
theorem lk_X10_beside_3 : Cond.fieldLink RX10 137 "PartedHouse$Act" "value" "I" ∈ wsX10_beside := List.mem_of_getElem? (i := 3) rfl
theorem lk_X10_beside_2 : Cond.fieldLink RX10 19 "PartedHouse" "doer" "LPartedHouse$Act;" ∈ wsX10_beside := List.mem_of_getElem? (i := 2) rfl
theorem lk_X10_beside_1 : Cond.fieldLink RX10 12 "PartedHouse" "text" "LPartedHouse$Text;" ∈ wsX10_beside := List.mem_of_getElem? (i := 1) rfl
abbrev rm_X10_beside (MC MS : Nat) : Room := { frames := 5, cells := MC, slots := MS, locals := 136 }
def vc_X10_beside (MC : Nat) (MS : Nat) (a1 : Int32) (a2 : Int32) (g0 : cm_M) (Post : Int32 → cm_M → Prop) : Prop := vc_X9_hasRoutine a1 g0 (fun (r1 : Int32) => ((¬ r1 = 0) → (∃ mc5 ms6 : Nat, (0 + mc5 ≤ MC) ∧ (0 + ms6 ≤ MS) ∧ (vc_X10_standsInOld mc5 ms6 a1 a2 g0 (fun (r3 : Int32) (g4 : cm_M) => ((r3 = 0) → (∃ mc10 ms11 : Nat, ((0 + mc5) + mc10 ≤ MC) ∧ ((0 + ms6) + ms11 ≤ MS) ∧ (vc_X10_standsInNew mc10 ms11 a1 a2 g4 (fun (r8 : Int32) (g9 : cm_M) => ((r8 = 0) → (((¬ r3 = r8) → (vc_X4_noteUnlike a1 a2 (-2000000000) (-2000000000) g9 (fun (g16 : cm_M) => ∀ g17 : cm_M, g17 = cm_s g16 33 ((g16.2.2 33 0) + 1) → (((0 + mc5) + mc10 ≤ MC) ∧ ((0 + ms6) + ms11 ≤ MS) ∧ (Post 0 g17))))) ∧ ((r3 = r8) → (∀ g21 : cm_M, g21 = cm_s g9 33 ((g9.2.2 33 0) + 1) → (((0 + mc5) + mc10 ≤ MC) ∧ ((0 + ms6) + ms11 ≤ MS) ∧ (Post 1 g21)))))) ∧ ((¬ r8 = 0) → (∀ y23 : Int32, y23 = g9.2.2 24 0 → (((¬ r3 = r8) → (vc_X4_noteUnlike a1 a2 (-2000000000) y23 g9 (fun (g27 : cm_M) => ∀ g28 : cm_M, g28 = cm_s g27 33 ((g27.2.2 33 0) + 1) → (((0 + mc5) + mc10 ≤ MC) ∧ ((0 + ms6) + ms11 ≤ MS) ∧ (Post 0 g28))))) ∧ ((r3 = r8) → (((¬ (-2000000000) = y23) → (vc_X4_noteUnlike a1 a2 (-2000000000) y23 g9 (fun (g33 : cm_M) => ∀ g34 : cm_M, g34 = cm_s g33 33 ((g33.2.2 33 0) + 1) → (((0 + mc5) + mc10 ≤ MC) ∧ ((0 + ms6) + ms11 ≤ MS) ∧ (Post 0 g34))))) ∧ (((-2000000000) = y23) → (∀ g37 : cm_M, g37 = cm_s g9 33 ((g9.2.2 33 0) + 1) → (((0 + mc5) + mc10 ≤ MC) ∧ ((0 + ms6) + ms11 ≤ MS) ∧ (Post 1 g37))))))))))))) ∧ ((¬ r3 = 0) → (∀ y39 : Int32, y39 = g4.2.2 24 0 → (∃ mc42 ms43 : Nat, ((0 + mc5) + mc42 ≤ MC) ∧ ((0 + ms6) + ms43 ≤ MS) ∧ (vc_X10_standsInNew mc42 ms43 a1 a2 g4 (fun (r40 : Int32) (g41 : cm_M) => ((r40 = 0) → (((¬ r3 = r40) → (vc_X4_noteUnlike a1 a2 y39 (-2000000000) g41 (fun (g48 : cm_M) => ∀ g49 : cm_M, g49 = cm_s g48 33 ((g48.2.2 33 0) + 1) → (((0 + mc5) + mc42 ≤ MC) ∧ ((0 + ms6) + ms43 ≤ MS) ∧ (Post 0 g49))))) ∧ ((r3 = r40) → (((¬ y39 = (-2000000000)) → (vc_X4_noteUnlike a1 a2 y39 (-2000000000) g41 (fun (g54 : cm_M) => ∀ g55 : cm_M, g55 = cm_s g54 33 ((g54.2.2 33 0) + 1) → (((0 + mc5) + mc42 ≤ MC) ∧ ((0 + ms6) + ms43 ≤ MS) ∧ (Post 0 g55))))) ∧ ((y39 = (-2000000000)) → (∀ g58 : cm_M, g58 = cm_s g41 33 ((g41.2.2 33 0) + 1) → (((0 + mc5) + mc42 ≤ MC) ∧ ((0 + ms6) + ms43 ≤ MS) ∧ (Post 1 g58)))))))) ∧ ((¬ r40 = 0) → (∀ y60 : Int32, y60 = g41.2.2 24 0 → (((¬ r3 = r40) → (vc_X4_noteUnlike a1 a2 y39 y60 g41 (fun (g64 : cm_M) => ∀ g65 : cm_M, g65 = cm_s g64 33 ((g64.2.2 33 0) + 1) → (((0 + mc5) + mc42 ≤ MC) ∧ ((0 + ms6) + ms43 ≤ MS) ∧ (Post 0 g65))))) ∧ ((r3 = r40) → (((¬ y39 = y60) → (vc_X4_noteUnlike a1 a2 y39 y60 g41 (fun (g70 : cm_M) => ∀ g71 : cm_M, g71 = cm_s g70 33 ((g70.2.2 33 0) + 1) → (((0 + mc5) + mc42 ≤ MC) ∧ ((0 + ms6) + ms43 ≤ MS) ∧ (Post 0 g71))))) ∧ ((y39 = y60) → (∀ g74 : cm_M, g74 = cm_s g41 33 ((g41.2.2 33 0) + 1) → (((0 + mc5) + mc42 ≤ MC) ∧ ((0 + ms6) + ms43 ≤ MS) ∧ (Post 1 g74)))))))))))))))))) ∧ ((r1 = 0) → (Post (-1) g0)))
set_option maxHeartbeats 4000000 in
set_option maxRecDepth 100000 in
theorem kc_X10_beside (l : Launch) (D : va_G) (cs : Nat → ClassId) (Y X : va_W) (ad : Nat → Nat) (MC : Nat) (MS : Nat) (a1 : Int32) (a2 : Int32) (g0 : cm_M) (Post : Int32 → cm_M → Prop) (hV : vc_X10_beside MC MS a1 a2 g0 Post) : JI (wc_d Y X cs ad) D vwCl (jt_tys cs) l yX10_beside wsX10_beside (rm_X10_beside MC MS) MC MS [.ref (ad 0), .int a1, .int a2] g0 Post := by
  refine jj_metI (cc := cX10_beside) (nL := 8) (ret := (some .int)) (by decide) rfl (Nat.le_of_ble_eq_true rfl) [(0, .ref (ad 0)), (1, .int a1), (2, .int a2)] rfl ?_
  intro p e s m args below meth c hC hnm
  rw [vc_X10_beside] at hV
  refine jj_aload_n (pc2 := 1) hC dX10_beside_0 rfl 0 rfl rfl ?_
  refine cg_M_text (pc2 := 4) hC hi_X10_beside_X10 lk_X10_beside_1 dX10_beside_1 rfl ?_
  refine jj_iload_n (pc2 := 5) hC dX10_beside_4 rfl 1 rfl rfl ?_
  refine jj_cVIp (pc2 := 8) (wd := wc_d Y X cs ad) (g := g0) (rest := []) hC (Y.length + 1) (jx_at (V := wc_W cs ad g0) rfl) rfl rfl (kc_X9_hasRoutine l D cs Y X ad a1 g0 _ hV) (cwV 1 hC.1.2.2.2.2 gX10_beside_X9_hasRoutine rfl rfl rfl (by decide +kernel) ⟨by show 0 + 1 ≤ 5; omega, by show 8 + (2 + 11) + 0 ≤ 136; omega⟩) rfl (Nat.le_of_ble_eq_true rfl) _ rfl dX10_beside_5 ⟨Nat.zero_le _, Nat.zero_le _⟩ rfl (fun r1 hV => ?_)
  refine jj_if_ne (pc2 := 11) hC 13 dX10_beside_8 (by decide) rfl (fun h2 => ?_) (fun h2 => ?_)
  · have hV := hV.1 h2
    refine jj_aload_n (pc2 := 14) hC dX10_beside_13 rfl 0 rfl rfl ?_
    refine jj_iload_n (pc2 := 15) hC dX10_beside_14 rfl 1 rfl rfl ?_
    refine jj_iload_n (pc2 := 16) hC dX10_beside_15 rfl 2 rfl rfl ?_
    obtain ⟨mc5, ms6, hmc5, hms6, hV⟩ := hV
    refine jj_callVI (pc2 := 19) (wd := wc_d Y X cs ad) (g := g0) (rest := []) hC (Y.length + 0) (jx_at (V := wc_W cs ad g0) rfl) rfl rfl (kc_X10_standsInOld l D cs Y X ad mc5 ms6 a1 a2 g0 _ hV) (cwV 2 hC.1.2.2.2.2 gX10_beside_X10_standsInOld rfl rfl rfl (by decide +kernel) ⟨by show 4 + 1 ≤ 5; omega, by show 8 + (3 + 11) + 109 ≤ 136; omega⟩) rfl (Nat.le_of_ble_eq_true rfl) _ rfl dX10_beside_16 ⟨hmc5, hms6⟩ rfl (fun r3 g4 hV => ?_)
    refine jj_istore_n (pc2 := 20) hC [(3, .int r3), (0, .ref (ad 0)), (1, .int a1), (2, .int a2)] dX10_beside_19 rfl (by decide) rfl rfl ?_
    refine jj_iload_n (pc2 := 21) hC dX10_beside_20 rfl 0 rfl rfl ?_
    refine jj_if_eq (pc2 := 24) hC 34 dX10_beside_21 (by decide) rfl (fun h7 => ?_) (fun h7 => ?_)
    · have hV := hV.1 h7
      refine jj_ldc (pc2 := 36) hC lk_X10_beside_4 dX10_beside_34 rfl ?_
      refine jj_istore (pc2 := 38) hC [(4, .int (-2000000000)), (3, .int r3), (0, .ref (ad 0)), (1, .int a1), (2, .int a2)] dX10_beside_36 (by decide) rfl rfl ?_
      refine jj_aload_n (pc2 := 39) hC dX10_beside_38 rfl 2 rfl rfl ?_
      refine jj_iload_n (pc2 := 40) hC dX10_beside_39 rfl 3 rfl rfl ?_
      refine jj_iload_n (pc2 := 41) hC dX10_beside_40 rfl 4 rfl rfl ?_
      obtain ⟨mc10, ms11, hmc10, hms11, hV⟩ := hV
      refine jj_callVI (pc2 := 44) (wd := wc_d Y X cs ad) (g := g4) (rest := []) hC (Y.length + 0) (jx_at (V := wc_W cs ad g4) rfl) rfl rfl (kc_X10_standsInNew l D cs Y X ad mc10 ms11 a1 a2 g4 _ hV) (cwV 2 hC.1.2.2.2.2 gX10_beside_X10_standsInNew rfl rfl rfl (by decide +kernel) ⟨by show 4 + 1 ≤ 5; omega, by show 8 + (3 + 11) + 114 ≤ 136; omega⟩) rfl (Nat.le_of_ble_eq_true rfl) _ rfl dX10_beside_41 ⟨hmc10, hms11⟩ rfl (fun r8 g9 hV => ?_)
      refine jj_istore (pc2 := 46) hC [(5, .int r8), (4, .int (-2000000000)), (3, .int r3), (0, .ref (ad 0)), (1, .int a1), (2, .int a2)] dX10_beside_44 (by decide) rfl rfl ?_
      refine jj_iload (pc2 := 48) hC dX10_beside_46 0 rfl rfl ?_
      refine jj_if_eq (pc2 := 51) hC 61 dX10_beside_48 (by decide) rfl (fun h12 => ?_) (fun h12 => ?_)
      · have hV := hV.1 h12
        refine jj_ldc (pc2 := 63) hC lk_X10_beside_4 dX10_beside_61 rfl ?_
        refine jj_istore (pc2 := 65) hC [(6, .int (-2000000000)), (5, .int r8), (4, .int (-2000000000)), (3, .int r3), (0, .ref (ad 0)), (1, .int a1), (2, .int a2)] dX10_beside_63 (by decide) rfl rfl ?_
        refine jj_iload_n (pc2 := 66) hC dX10_beside_65 rfl 3 rfl rfl ?_
        refine jj_iload (pc2 := 68) hC dX10_beside_66 1 rfl rfl ?_
        refine jj_icmp_ne (pc2 := 71) hC 82 dX10_beside_68 (by decide) rfl (fun h13 => ?_) (fun h13 => ?_)
        · have hV := hV.1 h13
          refine jj_iconst (pc2 := 83) hC 0 dX10_beside_82 (by decide) rfl ?_
          refine jj_istore (pc2 := 85) hC [(7, .int 0), (6, .int (-2000000000)), (5, .int r8), (4, .int (-2000000000)), (3, .int r3), (0, .ref (ad 0)), (1, .int a1), (2, .int a2)] dX10_beside_83 (by decide) rfl rfl ?_
          refine jj_iload (pc2 := 87) hC dX10_beside_85 0 rfl rfl ?_
          refine jj_if_ne (pc2 := 90) hC 103 dX10_beside_87 (by decide) rfl (fun h14 => absurd h14 (by decide)) (fun _ => ?_)
          refine jj_aload_n (pc2 := 91) hC dX10_beside_90 rfl 5 rfl rfl ?_
          refine cg_M_now (pc2 := 94) hC hi_X10_beside_X10 lk_X10_beside_5 dX10_beside_91 rfl ?_
          refine jj_iload_n (pc2 := 95) hC dX10_beside_94 rfl 6 rfl rfl ?_
          refine jj_iload_n (pc2 := 96) hC dX10_beside_95 rfl 7 rfl rfl ?_
          refine jj_iload (pc2 := 98) hC dX10_beside_96 3 rfl rfl ?_
          refine jj_iload (pc2 := 100) hC dX10_beside_98 1 rfl rfl ?_
          refine jj_cVV (pc2 := 103) (wd := wc_d Y X cs ad) (g := g9) (rest := []) hC (Y.length + 3) (jx_at (V := wc_W cs ad g9) rfl) rfl rfl (kc_X4_noteUnlike l D cs Y X ad a1 a2 (-2000000000) (-2000000000) g9 _ hV) (cwV 4 hC.1.2.2.2.2 gX10_beside_X4_noteUnlike rfl rfl rfl (by decide +kernel) ⟨by show 0 + 1 ≤ 5; omega, by show 8 + (5 + 11) + 0 ≤ 136; omega⟩) rfl (Nat.le_of_ble_eq_true rfl) _ rfl dX10_beside_100 ⟨show (0 + mc5) + mc10 ≤ MC by omega, show (0 + ms6) + ms11 ≤ MS by omega⟩ rfl (fun g16 hV => ?_)
          refine jj_aload_n (pc2 := 104) hC dX10_beside_103 rfl 5 rfl rfl ?_
          refine cg_M_now (pc2 := 107) hC hi_X10_beside_X10 lk_X10_beside_5 dX10_beside_104 rfl ?_
          refine jj_dup (pc2 := 108) hC dX10_beside_107 rfl rfl ?_
          refine cg_H_besides (pc2 := 111) hC hi_X10_beside_X4 lk_X10_beside_6 dX10_beside_108 rfl ?_
          refine jj_iconst (pc2 := 112) hC 1 dX10_beside_111 (by decide) rfl ?_
          refine jj_iadd (pc2 := 113) hC dX10_beside_112 rfl ?_
          refine cp_H_besides (pc2 := 116) hC hi_X10_beside_X4 lk_X10_beside_6 dX10_beside_113 rfl (fun g17 eg17 => ?_)
          have hV := hV g17 eg17
          refine jj_iload (pc2 := 118) hC dX10_beside_116 0 rfl rfl ?_
          refine jj_if_eq (pc2 := 121) hC 125 dX10_beside_118 (by decide) rfl (fun _ => ?_) (fun h18 => absurd h18 (by decide))
          refine jj_iconst (pc2 := 126) hC 0 dX10_beside_125 (by decide) rfl ?_
          obtain ⟨hb1, hb2, hV⟩ := hV
          refine jj_widen (k := MC) (n := MS) hb1 hb2 ?_
          exact jj_iret hC dX10_beside_126 hV
        · have hV := hV.2 h13
          refine jj_iload (pc2 := 73) hC dX10_beside_71 2 rfl rfl ?_
          refine jj_iload (pc2 := 75) hC dX10_beside_73 0 rfl rfl ?_
          refine jj_icmp_ne (pc2 := 78) hC 82 dX10_beside_75 (by decide) rfl (fun h19 => absurd h19 (by decide)) (fun _ => ?_)
          refine jj_iconst (pc2 := 79) hC 1 dX10_beside_78 (by decide) rfl ?_
          refine jj_goto hC 83 dX10_beside_79 (by decide) ?_
          refine jj_istore (pc2 := 85) hC [(7, .int 1), (6, .int (-2000000000)), (5, .int r8), (4, .int (-2000000000)), (3, .int r3), (0, .ref (ad 0)), (1, .int a1), (2, .int a2)] dX10_beside_83 (by decide) rfl rfl ?_
          refine jj_iload (pc2 := 87) hC dX10_beside_85 0 rfl rfl ?_
          refine jj_if_ne (pc2 := 90) hC 103 dX10_beside_87 (by decide) rfl (fun _ => ?_) (fun h20 => absurd h20 (by decide))
          refine jj_aload_n (pc2 := 104) hC dX10_beside_103 rfl 5 rfl rfl ?_
          refine cg_M_now (pc2 := 107) hC hi_X10_beside_X10 lk_X10_beside_5 dX10_beside_104 rfl ?_
          refine jj_dup (pc2 := 108) hC dX10_beside_107 rfl rfl ?_
          refine cg_H_besides (pc2 := 111) hC hi_X10_beside_X4 lk_X10_beside_6 dX10_beside_108 rfl ?_
          refine jj_iconst (pc2 := 112) hC 1 dX10_beside_111 (by decide) rfl ?_
          refine jj_iadd (pc2 := 113) hC dX10_beside_112 rfl ?_
          refine cp_H_besides (pc2 := 116) hC hi_X10_beside_X4 lk_X10_beside_6 dX10_beside_113 rfl (fun g21 eg21 => ?_)
          have hV := hV g21 eg21
          refine jj_iload (pc2 := 118) hC dX10_beside_116 0 rfl rfl ?_
          refine jj_if_eq (pc2 := 121) hC 125 dX10_beside_118 (by decide) rfl (fun h22 => absurd h22 (by decide)) (fun _ => ?_)
          refine jj_iconst (pc2 := 122) hC 1 dX10_beside_121 (by decide) rfl ?_
          refine jj_goto hC 126 dX10_beside_122 (by decide) ?_
          obtain ⟨hb1, hb2, hV⟩ := hV
          refine jj_widen (k := MC) (n := MS) hb1 hb2 ?_
          exact jj_iret hC dX10_beside_126 hV
      · have hV := hV.2 h12
        refine jj_aload_n (pc2 := 52) hC dX10_beside_51 rfl 3 rfl rfl ?_
        refine cg_M_doer (pc2 := 55) hC hi_X10_beside_X10 lk_X10_beside_2 dX10_beside_52 rfl ?_
        refine cg_A_value (pc2 := 58) hC hi_X10_beside_X0 lk_X10_beside_3 dX10_beside_55 rfl ?_
        refine jj_goto hC 63 dX10_beside_58 (by decide) ?_
        refine jj_topi (fun y23 ey23 => ?_)
        have hV := hV y23 ey23
        refine jj_istore (pc2 := 65) hC [(6, .int y23), (5, .int r8), (4, .int (-2000000000)), (3, .int r3), (0, .ref (ad 0)), (1, .int a1), (2, .int a2)] dX10_beside_63 (by decide) rfl rfl ?_
        refine jj_iload_n (pc2 := 66) hC dX10_beside_65 rfl 3 rfl rfl ?_
        refine jj_iload (pc2 := 68) hC dX10_beside_66 1 rfl rfl ?_
        refine jj_icmp_ne (pc2 := 71) hC 82 dX10_beside_68 (by decide) rfl (fun h24 => ?_) (fun h24 => ?_)
        · have hV := hV.1 h24
          refine jj_iconst (pc2 := 83) hC 0 dX10_beside_82 (by decide) rfl ?_
          refine jj_istore (pc2 := 85) hC [(7, .int 0), (6, .int y23), (5, .int r8), (4, .int (-2000000000)), (3, .int r3), (0, .ref (ad 0)), (1, .int a1), (2, .int a2)] dX10_beside_83 (by decide) rfl rfl ?_
          refine jj_iload (pc2 := 87) hC dX10_beside_85 0 rfl rfl ?_
          refine jj_if_ne (pc2 := 90) hC 103 dX10_beside_87 (by decide) rfl (fun h25 => absurd h25 (by decide)) (fun _ => ?_)
          refine jj_aload_n (pc2 := 91) hC dX10_beside_90 rfl 5 rfl rfl ?_
          refine cg_M_now (pc2 := 94) hC hi_X10_beside_X10 lk_X10_beside_5 dX10_beside_91 rfl ?_
          refine jj_iload_n (pc2 := 95) hC dX10_beside_94 rfl 6 rfl rfl ?_
          refine jj_iload_n (pc2 := 96) hC dX10_beside_95 rfl 7 rfl rfl ?_
          refine jj_iload (pc2 := 98) hC dX10_beside_96 3 rfl rfl ?_
          refine jj_iload (pc2 := 100) hC dX10_beside_98 1 rfl rfl ?_
          refine jj_cVV (pc2 := 103) (wd := wc_d Y X cs ad) (g := g9) (rest := []) hC (Y.length + 3) (jx_at (V := wc_W cs ad g9) rfl) rfl rfl (kc_X4_noteUnlike l D cs Y X ad a1 a2 (-2000000000) y23 g9 _ hV) (cwV 4 hC.1.2.2.2.2 gX10_beside_X4_noteUnlike rfl rfl rfl (by decide +kernel) ⟨by show 0 + 1 ≤ 5; omega, by show 8 + (5 + 11) + 0 ≤ 136; omega⟩) rfl (Nat.le_of_ble_eq_true rfl) _ rfl dX10_beside_100 ⟨show (0 + mc5) + mc10 ≤ MC by omega, show (0 + ms6) + ms11 ≤ MS by omega⟩ rfl (fun g27 hV => ?_)
          refine jj_aload_n (pc2 := 104) hC dX10_beside_103 rfl 5 rfl rfl ?_
          refine cg_M_now (pc2 := 107) hC hi_X10_beside_X10 lk_X10_beside_5 dX10_beside_104 rfl ?_
          refine jj_dup (pc2 := 108) hC dX10_beside_107 rfl rfl ?_
          refine cg_H_besides (pc2 := 111) hC hi_X10_beside_X4 lk_X10_beside_6 dX10_beside_108 rfl ?_
          refine jj_iconst (pc2 := 112) hC 1 dX10_beside_111 (by decide) rfl ?_
          refine jj_iadd (pc2 := 113) hC dX10_beside_112 rfl ?_
          refine cp_H_besides (pc2 := 116) hC hi_X10_beside_X4 lk_X10_beside_6 dX10_beside_113 rfl (fun g28 eg28 => ?_)
          have hV := hV g28 eg28
          refine jj_iload (pc2 := 118) hC dX10_beside_116 0 rfl rfl ?_
          refine jj_if_eq (pc2 := 121) hC 125 dX10_beside_118 (by decide) rfl (fun _ => ?_) (fun h29 => absurd h29 (by decide))
          refine jj_iconst (pc2 := 126) hC 0 dX10_beside_125 (by decide) rfl ?_
          obtain ⟨hb1, hb2, hV⟩ := hV
          refine jj_widen (k := MC) (n := MS) hb1 hb2 ?_
          exact jj_iret hC dX10_beside_126 hV
        · have hV := hV.2 h24
          refine jj_iload (pc2 := 73) hC dX10_beside_71 2 rfl rfl ?_
          refine jj_iload (pc2 := 75) hC dX10_beside_73 0 rfl rfl ?_
          refine jj_icmp_ne (pc2 := 78) hC 82 dX10_beside_75 (by decide) rfl (fun h30 => ?_) (fun h30 => ?_)
          · have hV := hV.1 h30
            refine jj_iconst (pc2 := 83) hC 0 dX10_beside_82 (by decide) rfl ?_
            refine jj_istore (pc2 := 85) hC [(7, .int 0), (6, .int y23), (5, .int r8), (4, .int (-2000000000)), (3, .int r3), (0, .ref (ad 0)), (1, .int a1), (2, .int a2)] dX10_beside_83 (by decide) rfl rfl ?_
            refine jj_iload (pc2 := 87) hC dX10_beside_85 0 rfl rfl ?_
            refine jj_if_ne (pc2 := 90) hC 103 dX10_beside_87 (by decide) rfl (fun h31 => absurd h31 (by decide)) (fun _ => ?_)
            refine jj_aload_n (pc2 := 91) hC dX10_beside_90 rfl 5 rfl rfl ?_
            refine cg_M_now (pc2 := 94) hC hi_X10_beside_X10 lk_X10_beside_5 dX10_beside_91 rfl ?_
            refine jj_iload_n (pc2 := 95) hC dX10_beside_94 rfl 6 rfl rfl ?_
            refine jj_iload_n (pc2 := 96) hC dX10_beside_95 rfl 7 rfl rfl ?_
            refine jj_iload (pc2 := 98) hC dX10_beside_96 3 rfl rfl ?_
            refine jj_iload (pc2 := 100) hC dX10_beside_98 1 rfl rfl ?_
            refine jj_cVV (pc2 := 103) (wd := wc_d Y X cs ad) (g := g9) (rest := []) hC (Y.length + 3) (jx_at (V := wc_W cs ad g9) rfl) rfl rfl (kc_X4_noteUnlike l D cs Y X ad a1 a2 (-2000000000) y23 g9 _ hV) (cwV 4 hC.1.2.2.2.2 gX10_beside_X4_noteUnlike rfl rfl rfl (by decide +kernel) ⟨by show 0 + 1 ≤ 5; omega, by show 8 + (5 + 11) + 0 ≤ 136; omega⟩) rfl (Nat.le_of_ble_eq_true rfl) _ rfl dX10_beside_100 ⟨show (0 + mc5) + mc10 ≤ MC by omega, show (0 + ms6) + ms11 ≤ MS by omega⟩ rfl (fun g33 hV => ?_)
            refine jj_aload_n (pc2 := 104) hC dX10_beside_103 rfl 5 rfl rfl ?_
            refine cg_M_now (pc2 := 107) hC hi_X10_beside_X10 lk_X10_beside_5 dX10_beside_104 rfl ?_
            refine jj_dup (pc2 := 108) hC dX10_beside_107 rfl rfl ?_
            refine cg_H_besides (pc2 := 111) hC hi_X10_beside_X4 lk_X10_beside_6 dX10_beside_108 rfl ?_
            refine jj_iconst (pc2 := 112) hC 1 dX10_beside_111 (by decide) rfl ?_
            refine jj_iadd (pc2 := 113) hC dX10_beside_112 rfl ?_
            refine cp_H_besides (pc2 := 116) hC hi_X10_beside_X4 lk_X10_beside_6 dX10_beside_113 rfl (fun g34 eg34 => ?_)
            have hV := hV g34 eg34
            refine jj_iload (pc2 := 118) hC dX10_beside_116 0 rfl rfl ?_
            refine jj_if_eq (pc2 := 121) hC 125 dX10_beside_118 (by decide) rfl (fun _ => ?_) (fun h35 => absurd h35 (by decide))
            refine jj_iconst (pc2 := 126) hC 0 dX10_beside_125 (by decide) rfl ?_
            obtain ⟨hb1, hb2, hV⟩ := hV
            refine jj_widen (k := MC) (n := MS) hb1 hb2 ?_
            exact jj_iret hC dX10_beside_126 hV
          · have hV := hV.2 h30
            refine jj_iconst (pc2 := 79) hC 1 dX10_beside_78 (by decide) rfl ?_
            refine jj_goto hC 83 dX10_beside_79 (by decide) ?_
            refine jj_istore (pc2 := 85) hC [(7, .int 1), (6, .int y23), (5, .int r8), (4, .int (-2000000000)), (3, .int r3), (0, .ref (ad 0)), (1, .int a1), (2, .int a2)] dX10_beside_83 (by decide) rfl rfl ?_
            refine jj_iload (pc2 := 87) hC dX10_beside_85 0 rfl rfl ?_
            refine jj_if_ne (pc2 := 90) hC 103 dX10_beside_87 (by decide) rfl (fun _ => ?_) (fun h36 => absurd h36 (by decide))
            refine jj_aload_n (pc2 := 104) hC dX10_beside_103 rfl 5 rfl rfl ?_
            refine cg_M_now (pc2 := 107) hC hi_X10_beside_X10 lk_X10_beside_5 dX10_beside_104 rfl ?_
            refine jj_dup (pc2 := 108) hC dX10_beside_107 rfl rfl ?_
            refine cg_H_besides (pc2 := 111) hC hi_X10_beside_X4 lk_X10_beside_6 dX10_beside_108 rfl ?_
            refine jj_iconst (pc2 := 112) hC 1 dX10_beside_111 (by decide) rfl ?_
            refine jj_iadd (pc2 := 113) hC dX10_beside_112 rfl ?_
            refine cp_H_besides (pc2 := 116) hC hi_X10_beside_X4 lk_X10_beside_6 dX10_beside_113 rfl (fun g37 eg37 => ?_)
            have hV := hV g37 eg37
            refine jj_iload (pc2 := 118) hC dX10_beside_116 0 rfl rfl ?_
            refine jj_if_eq (pc2 := 121) hC 125 dX10_beside_118 (by decide) rfl (fun h38 => absurd h38 (by decide)) (fun _ => ?_)
            refine jj_iconst (pc2 := 122) hC 1 dX10_beside_121 (by decide) rfl ?_
            refine jj_goto hC 126 dX10_beside_122 (by decide) ?_
            obtain ⟨hb1, hb2, hV⟩ := hV
            refine jj_widen (k := MC) (n := MS) hb1 hb2 ?_
            exact jj_iret hC dX10_beside_126 hV
    · have hV := hV.2 h7
      refine jj_aload_n (pc2 := 25) hC dX10_beside_24 rfl 1 rfl rfl ?_
      refine cg_M_doer (pc2 := 28) hC hi_X10_beside_X10 lk_X10_beside_2 dX10_beside_25 rfl ?_
      refine cg_A_value (pc2 := 31) hC hi_X10_beside_X0 lk_X10_beside_3 dX10_beside_28 rfl ?_
      refine jj_goto hC 36 dX10_beside_31 (by decide) ?_
      refine jj_topi (fun y39 ey39 => ?_)
      have hV := hV y39 ey39
      refine jj_istore (pc2 := 38) hC [(4, .int y39), (3, .int r3), (0, .ref (ad 0)), (1, .int a1), (2, .int a2)] dX10_beside_36 (by decide) rfl rfl ?_
      refine jj_aload_n (pc2 := 39) hC dX10_beside_38 rfl 2 rfl rfl ?_
      refine jj_iload_n (pc2 := 40) hC dX10_beside_39 rfl 3 rfl rfl ?_
      refine jj_iload_n (pc2 := 41) hC dX10_beside_40 rfl 4 rfl rfl ?_
      obtain ⟨mc42, ms43, hmc42, hms43, hV⟩ := hV
      refine jj_callVI (pc2 := 44) (wd := wc_d Y X cs ad) (g := g4) (rest := []) hC (Y.length + 0) (jx_at (V := wc_W cs ad g4) rfl) rfl rfl (kc_X10_standsInNew l D cs Y X ad mc42 ms43 a1 a2 g4 _ hV) (cwV 2 hC.1.2.2.2.2 gX10_beside_X10_standsInNew rfl rfl rfl (by decide +kernel) ⟨by show 4 + 1 ≤ 5; omega, by show 8 + (3 + 11) + 114 ≤ 136; omega⟩) rfl (Nat.le_of_ble_eq_true rfl) _ rfl dX10_beside_41 ⟨hmc42, hms43⟩ rfl (fun r40 g41 hV => ?_)
      refine jj_istore (pc2 := 46) hC [(5, .int r40), (4, .int y39), (3, .int r3), (0, .ref (ad 0)), (1, .int a1), (2, .int a2)] dX10_beside_44 (by decide) rfl rfl ?_
      refine jj_iload (pc2 := 48) hC dX10_beside_46 0 rfl rfl ?_
      refine jj_if_eq (pc2 := 51) hC 61 dX10_beside_48 (by decide) rfl (fun h44 => ?_) (fun h44 => ?_)
      · have hV := hV.1 h44
        refine jj_ldc (pc2 := 63) hC lk_X10_beside_4 dX10_beside_61 rfl ?_
        refine jj_istore (pc2 := 65) hC [(6, .int (-2000000000)), (5, .int r40), (4, .int y39), (3, .int r3), (0, .ref (ad 0)), (1, .int a1), (2, .int a2)] dX10_beside_63 (by decide) rfl rfl ?_
        refine jj_iload_n (pc2 := 66) hC dX10_beside_65 rfl 3 rfl rfl ?_
        refine jj_iload (pc2 := 68) hC dX10_beside_66 1 rfl rfl ?_
        refine jj_icmp_ne (pc2 := 71) hC 82 dX10_beside_68 (by decide) rfl (fun h45 => ?_) (fun h45 => ?_)
        · have hV := hV.1 h45
          refine jj_iconst (pc2 := 83) hC 0 dX10_beside_82 (by decide) rfl ?_
          refine jj_istore (pc2 := 85) hC [(7, .int 0), (6, .int (-2000000000)), (5, .int r40), (4, .int y39), (3, .int r3), (0, .ref (ad 0)), (1, .int a1), (2, .int a2)] dX10_beside_83 (by decide) rfl rfl ?_
          refine jj_iload (pc2 := 87) hC dX10_beside_85 0 rfl rfl ?_
          refine jj_if_ne (pc2 := 90) hC 103 dX10_beside_87 (by decide) rfl (fun h46 => absurd h46 (by decide)) (fun _ => ?_)
          refine jj_aload_n (pc2 := 91) hC dX10_beside_90 rfl 5 rfl rfl ?_
          refine cg_M_now (pc2 := 94) hC hi_X10_beside_X10 lk_X10_beside_5 dX10_beside_91 rfl ?_
          refine jj_iload_n (pc2 := 95) hC dX10_beside_94 rfl 6 rfl rfl ?_
          refine jj_iload_n (pc2 := 96) hC dX10_beside_95 rfl 7 rfl rfl ?_
          refine jj_iload (pc2 := 98) hC dX10_beside_96 3 rfl rfl ?_
          refine jj_iload (pc2 := 100) hC dX10_beside_98 1 rfl rfl ?_
          refine jj_cVV (pc2 := 103) (wd := wc_d Y X cs ad) (g := g41) (rest := []) hC (Y.length + 3) (jx_at (V := wc_W cs ad g41) rfl) rfl rfl (kc_X4_noteUnlike l D cs Y X ad a1 a2 y39 (-2000000000) g41 _ hV) (cwV 4 hC.1.2.2.2.2 gX10_beside_X4_noteUnlike rfl rfl rfl (by decide +kernel) ⟨by show 0 + 1 ≤ 5; omega, by show 8 + (5 + 11) + 0 ≤ 136; omega⟩) rfl (Nat.le_of_ble_eq_true rfl) _ rfl dX10_beside_100 ⟨show (0 + mc5) + mc42 ≤ MC by omega, show (0 + ms6) + ms43 ≤ MS by omega⟩ rfl (fun g48 hV => ?_)
          refine jj_aload_n (pc2 := 104) hC dX10_beside_103 rfl 5 rfl rfl ?_
          refine cg_M_now (pc2 := 107) hC hi_X10_beside_X10 lk_X10_beside_5 dX10_beside_104 rfl ?_
          refine jj_dup (pc2 := 108) hC dX10_beside_107 rfl rfl ?_
          refine cg_H_besides (pc2 := 111) hC hi_X10_beside_X4 lk_X10_beside_6 dX10_beside_108 rfl ?_
          refine jj_iconst (pc2 := 112) hC 1 dX10_beside_111 (by decide) rfl ?_
          refine jj_iadd (pc2 := 113) hC dX10_beside_112 rfl ?_
          refine cp_H_besides (pc2 := 116) hC hi_X10_beside_X4 lk_X10_beside_6 dX10_beside_113 rfl (fun g49 eg49 => ?_)
          have hV := hV g49 eg49
          refine jj_iload (pc2 := 118) hC dX10_beside_116 0 rfl rfl ?_
          refine jj_if_eq (pc2 := 121) hC 125 dX10_beside_118 (by decide) rfl (fun _ => ?_) (fun h50 => absurd h50 (by decide))
          refine jj_iconst (pc2 := 126) hC 0 dX10_beside_125 (by decide) rfl ?_
          obtain ⟨hb1, hb2, hV⟩ := hV
          refine jj_widen (k := MC) (n := MS) hb1 hb2 ?_
          exact jj_iret hC dX10_beside_126 hV
        · have hV := hV.2 h45
          refine jj_iload (pc2 := 73) hC dX10_beside_71 2 rfl rfl ?_
          refine jj_iload (pc2 := 75) hC dX10_beside_73 0 rfl rfl ?_
          refine jj_icmp_ne (pc2 := 78) hC 82 dX10_beside_75 (by decide) rfl (fun h51 => ?_) (fun h51 => ?_)
          · have hV := hV.1 h51
            refine jj_iconst (pc2 := 83) hC 0 dX10_beside_82 (by decide) rfl ?_
            refine jj_istore (pc2 := 85) hC [(7, .int 0), (6, .int (-2000000000)), (5, .int r40), (4, .int y39), (3, .int r3), (0, .ref (ad 0)), (1, .int a1), (2, .int a2)] dX10_beside_83 (by decide) rfl rfl ?_
            refine jj_iload (pc2 := 87) hC dX10_beside_85 0 rfl rfl ?_
            refine jj_if_ne (pc2 := 90) hC 103 dX10_beside_87 (by decide) rfl (fun h52 => absurd h52 (by decide)) (fun _ => ?_)
            refine jj_aload_n (pc2 := 91) hC dX10_beside_90 rfl 5 rfl rfl ?_
            refine cg_M_now (pc2 := 94) hC hi_X10_beside_X10 lk_X10_beside_5 dX10_beside_91 rfl ?_
            refine jj_iload_n (pc2 := 95) hC dX10_beside_94 rfl 6 rfl rfl ?_
            refine jj_iload_n (pc2 := 96) hC dX10_beside_95 rfl 7 rfl rfl ?_
            refine jj_iload (pc2 := 98) hC dX10_beside_96 3 rfl rfl ?_
            refine jj_iload (pc2 := 100) hC dX10_beside_98 1 rfl rfl ?_
            refine jj_cVV (pc2 := 103) (wd := wc_d Y X cs ad) (g := g41) (rest := []) hC (Y.length + 3) (jx_at (V := wc_W cs ad g41) rfl) rfl rfl (kc_X4_noteUnlike l D cs Y X ad a1 a2 y39 (-2000000000) g41 _ hV) (cwV 4 hC.1.2.2.2.2 gX10_beside_X4_noteUnlike rfl rfl rfl (by decide +kernel) ⟨by show 0 + 1 ≤ 5; omega, by show 8 + (5 + 11) + 0 ≤ 136; omega⟩) rfl (Nat.le_of_ble_eq_true rfl) _ rfl dX10_beside_100 ⟨show (0 + mc5) + mc42 ≤ MC by omega, show (0 + ms6) + ms43 ≤ MS by omega⟩ rfl (fun g54 hV => ?_)
            refine jj_aload_n (pc2 := 104) hC dX10_beside_103 rfl 5 rfl rfl ?_
            refine cg_M_now (pc2 := 107) hC hi_X10_beside_X10 lk_X10_beside_5 dX10_beside_104 rfl ?_
            refine jj_dup (pc2 := 108) hC dX10_beside_107 rfl rfl ?_
            refine cg_H_besides (pc2 := 111) hC hi_X10_beside_X4 lk_X10_beside_6 dX10_beside_108 rfl ?_
            refine jj_iconst (pc2 := 112) hC 1 dX10_beside_111 (by decide) rfl ?_
            refine jj_iadd (pc2 := 113) hC dX10_beside_112 rfl ?_
            refine cp_H_besides (pc2 := 116) hC hi_X10_beside_X4 lk_X10_beside_6 dX10_beside_113 rfl (fun g55 eg55 => ?_)
            have hV := hV g55 eg55
            refine jj_iload (pc2 := 118) hC dX10_beside_116 0 rfl rfl ?_
            refine jj_if_eq (pc2 := 121) hC 125 dX10_beside_118 (by decide) rfl (fun _ => ?_) (fun h56 => absurd h56 (by decide))
            refine jj_iconst (pc2 := 126) hC 0 dX10_beside_125 (by decide) rfl ?_
            obtain ⟨hb1, hb2, hV⟩ := hV
            refine jj_widen (k := MC) (n := MS) hb1 hb2 ?_
            exact jj_iret hC dX10_beside_126 hV
          · have hV := hV.2 h51
            refine jj_iconst (pc2 := 79) hC 1 dX10_beside_78 (by decide) rfl ?_
            refine jj_goto hC 83 dX10_beside_79 (by decide) ?_
            refine jj_istore (pc2 := 85) hC [(7, .int 1), (6, .int (-2000000000)), (5, .int r40), (4, .int y39), (3, .int r3), (0, .ref (ad 0)), (1, .int a1), (2, .int a2)] dX10_beside_83 (by decide) rfl rfl ?_
            refine jj_iload (pc2 := 87) hC dX10_beside_85 0 rfl rfl ?_
            refine jj_if_ne (pc2 := 90) hC 103 dX10_beside_87 (by decide) rfl (fun _ => ?_) (fun h57 => absurd h57 (by decide))
            refine jj_aload_n (pc2 := 104) hC dX10_beside_103 rfl 5 rfl rfl ?_
            refine cg_M_now (pc2 := 107) hC hi_X10_beside_X10 lk_X10_beside_5 dX10_beside_104 rfl ?_
            refine jj_dup (pc2 := 108) hC dX10_beside_107 rfl rfl ?_
            refine cg_H_besides (pc2 := 111) hC hi_X10_beside_X4 lk_X10_beside_6 dX10_beside_108 rfl ?_
            refine jj_iconst (pc2 := 112) hC 1 dX10_beside_111 (by decide) rfl ?_
            refine jj_iadd (pc2 := 113) hC dX10_beside_112 rfl ?_
            refine cp_H_besides (pc2 := 116) hC hi_X10_beside_X4 lk_X10_beside_6 dX10_beside_113 rfl (fun g58 eg58 => ?_)
            have hV := hV g58 eg58
            refine jj_iload (pc2 := 118) hC dX10_beside_116 0 rfl rfl ?_
            refine jj_if_eq (pc2 := 121) hC 125 dX10_beside_118 (by decide) rfl (fun h59 => absurd h59 (by decide)) (fun _ => ?_)
            refine jj_iconst (pc2 := 122) hC 1 dX10_beside_121 (by decide) rfl ?_
            refine jj_goto hC 126 dX10_beside_122 (by decide) ?_
            obtain ⟨hb1, hb2, hV⟩ := hV
            refine jj_widen (k := MC) (n := MS) hb1 hb2 ?_
            exact jj_iret hC dX10_beside_126 hV
      · have hV := hV.2 h44
        refine jj_aload_n (pc2 := 52) hC dX10_beside_51 rfl 3 rfl rfl ?_
        refine cg_M_doer (pc2 := 55) hC hi_X10_beside_X10 lk_X10_beside_2 dX10_beside_52 rfl ?_
        refine cg_A_value (pc2 := 58) hC hi_X10_beside_X0 lk_X10_beside_3 dX10_beside_55 rfl ?_
        refine jj_goto hC 63 dX10_beside_58 (by decide) ?_
        refine jj_topi (fun y60 ey60 => ?_)
        have hV := hV y60 ey60
        refine jj_istore (pc2 := 65) hC [(6, .int y60), (5, .int r40), (4, .int y39), (3, .int r3), (0, .ref (ad 0)), (1, .int a1), (2, .int a2)] dX10_beside_63 (by decide) rfl rfl ?_
        refine jj_iload_n (pc2 := 66) hC dX10_beside_65 rfl 3 rfl rfl ?_
        refine jj_iload (pc2 := 68) hC dX10_beside_66 1 rfl rfl ?_
        refine jj_icmp_ne (pc2 := 71) hC 82 dX10_beside_68 (by decide) rfl (fun h61 => ?_) (fun h61 => ?_)
        · have hV := hV.1 h61
          refine jj_iconst (pc2 := 83) hC 0 dX10_beside_82 (by decide) rfl ?_
          refine jj_istore (pc2 := 85) hC [(7, .int 0), (6, .int y60), (5, .int r40), (4, .int y39), (3, .int r3), (0, .ref (ad 0)), (1, .int a1), (2, .int a2)] dX10_beside_83 (by decide) rfl rfl ?_
          refine jj_iload (pc2 := 87) hC dX10_beside_85 0 rfl rfl ?_
          refine jj_if_ne (pc2 := 90) hC 103 dX10_beside_87 (by decide) rfl (fun h62 => absurd h62 (by decide)) (fun _ => ?_)
          refine jj_aload_n (pc2 := 91) hC dX10_beside_90 rfl 5 rfl rfl ?_
          refine cg_M_now (pc2 := 94) hC hi_X10_beside_X10 lk_X10_beside_5 dX10_beside_91 rfl ?_
          refine jj_iload_n (pc2 := 95) hC dX10_beside_94 rfl 6 rfl rfl ?_
          refine jj_iload_n (pc2 := 96) hC dX10_beside_95 rfl 7 rfl rfl ?_
          refine jj_iload (pc2 := 98) hC dX10_beside_96 3 rfl rfl ?_
          refine jj_iload (pc2 := 100) hC dX10_beside_98 1 rfl rfl ?_
          refine jj_cVV (pc2 := 103) (wd := wc_d Y X cs ad) (g := g41) (rest := []) hC (Y.length + 3) (jx_at (V := wc_W cs ad g41) rfl) rfl rfl (kc_X4_noteUnlike l D cs Y X ad a1 a2 y39 y60 g41 _ hV) (cwV 4 hC.1.2.2.2.2 gX10_beside_X4_noteUnlike rfl rfl rfl (by decide +kernel) ⟨by show 0 + 1 ≤ 5; omega, by show 8 + (5 + 11) + 0 ≤ 136; omega⟩) rfl (Nat.le_of_ble_eq_true rfl) _ rfl dX10_beside_100 ⟨show (0 + mc5) + mc42 ≤ MC by omega, show (0 + ms6) + ms43 ≤ MS by omega⟩ rfl (fun g64 hV => ?_)
          refine jj_aload_n (pc2 := 104) hC dX10_beside_103 rfl 5 rfl rfl ?_
          refine cg_M_now (pc2 := 107) hC hi_X10_beside_X10 lk_X10_beside_5 dX10_beside_104 rfl ?_
          refine jj_dup (pc2 := 108) hC dX10_beside_107 rfl rfl ?_
          refine cg_H_besides (pc2 := 111) hC hi_X10_beside_X4 lk_X10_beside_6 dX10_beside_108 rfl ?_
          refine jj_iconst (pc2 := 112) hC 1 dX10_beside_111 (by decide) rfl ?_
          refine jj_iadd (pc2 := 113) hC dX10_beside_112 rfl ?_
          refine cp_H_besides (pc2 := 116) hC hi_X10_beside_X4 lk_X10_beside_6 dX10_beside_113 rfl (fun g65 eg65 => ?_)
          have hV := hV g65 eg65
          refine jj_iload (pc2 := 118) hC dX10_beside_116 0 rfl rfl ?_
          refine jj_if_eq (pc2 := 121) hC 125 dX10_beside_118 (by decide) rfl (fun _ => ?_) (fun h66 => absurd h66 (by decide))
          refine jj_iconst (pc2 := 126) hC 0 dX10_beside_125 (by decide) rfl ?_
          obtain ⟨hb1, hb2, hV⟩ := hV
          refine jj_widen (k := MC) (n := MS) hb1 hb2 ?_
          exact jj_iret hC dX10_beside_126 hV
        · have hV := hV.2 h61
          refine jj_iload (pc2 := 73) hC dX10_beside_71 2 rfl rfl ?_
          refine jj_iload (pc2 := 75) hC dX10_beside_73 0 rfl rfl ?_
          refine jj_icmp_ne (pc2 := 78) hC 82 dX10_beside_75 (by decide) rfl (fun h67 => ?_) (fun h67 => ?_)
          · have hV := hV.1 h67
            refine jj_iconst (pc2 := 83) hC 0 dX10_beside_82 (by decide) rfl ?_
            refine jj_istore (pc2 := 85) hC [(7, .int 0), (6, .int y60), (5, .int r40), (4, .int y39), (3, .int r3), (0, .ref (ad 0)), (1, .int a1), (2, .int a2)] dX10_beside_83 (by decide) rfl rfl ?_
            refine jj_iload (pc2 := 87) hC dX10_beside_85 0 rfl rfl ?_
            refine jj_if_ne (pc2 := 90) hC 103 dX10_beside_87 (by decide) rfl (fun h68 => absurd h68 (by decide)) (fun _ => ?_)
            refine jj_aload_n (pc2 := 91) hC dX10_beside_90 rfl 5 rfl rfl ?_
            refine cg_M_now (pc2 := 94) hC hi_X10_beside_X10 lk_X10_beside_5 dX10_beside_91 rfl ?_
            refine jj_iload_n (pc2 := 95) hC dX10_beside_94 rfl 6 rfl rfl ?_
            refine jj_iload_n (pc2 := 96) hC dX10_beside_95 rfl 7 rfl rfl ?_
            refine jj_iload (pc2 := 98) hC dX10_beside_96 3 rfl rfl ?_
            refine jj_iload (pc2 := 100) hC dX10_beside_98 1 rfl rfl ?_
            refine jj_cVV (pc2 := 103) (wd := wc_d Y X cs ad) (g := g41) (rest := []) hC (Y.length + 3) (jx_at (V := wc_W cs ad g41) rfl) rfl rfl (kc_X4_noteUnlike l D cs Y X ad a1 a2 y39 y60 g41 _ hV) (cwV 4 hC.1.2.2.2.2 gX10_beside_X4_noteUnlike rfl rfl rfl (by decide +kernel) ⟨by show 0 + 1 ≤ 5; omega, by show 8 + (5 + 11) + 0 ≤ 136; omega⟩) rfl (Nat.le_of_ble_eq_true rfl) _ rfl dX10_beside_100 ⟨show (0 + mc5) + mc42 ≤ MC by omega, show (0 + ms6) + ms43 ≤ MS by omega⟩ rfl (fun g70 hV => ?_)
            refine jj_aload_n (pc2 := 104) hC dX10_beside_103 rfl 5 rfl rfl ?_
            refine cg_M_now (pc2 := 107) hC hi_X10_beside_X10 lk_X10_beside_5 dX10_beside_104 rfl ?_
            refine jj_dup (pc2 := 108) hC dX10_beside_107 rfl rfl ?_
            refine cg_H_besides (pc2 := 111) hC hi_X10_beside_X4 lk_X10_beside_6 dX10_beside_108 rfl ?_
            refine jj_iconst (pc2 := 112) hC 1 dX10_beside_111 (by decide) rfl ?_
            refine jj_iadd (pc2 := 113) hC dX10_beside_112 rfl ?_
            refine cp_H_besides (pc2 := 116) hC hi_X10_beside_X4 lk_X10_beside_6 dX10_beside_113 rfl (fun g71 eg71 => ?_)
            have hV := hV g71 eg71
            refine jj_iload (pc2 := 118) hC dX10_beside_116 0 rfl rfl ?_
            refine jj_if_eq (pc2 := 121) hC 125 dX10_beside_118 (by decide) rfl (fun _ => ?_) (fun h72 => absurd h72 (by decide))
            refine jj_iconst (pc2 := 126) hC 0 dX10_beside_125 (by decide) rfl ?_
            obtain ⟨hb1, hb2, hV⟩ := hV
            refine jj_widen (k := MC) (n := MS) hb1 hb2 ?_
            exact jj_iret hC dX10_beside_126 hV
          · have hV := hV.2 h67
            refine jj_iconst (pc2 := 79) hC 1 dX10_beside_78 (by decide) rfl ?_
            refine jj_goto hC 83 dX10_beside_79 (by decide) ?_
            refine jj_istore (pc2 := 85) hC [(7, .int 1), (6, .int y60), (5, .int r40), (4, .int y39), (3, .int r3), (0, .ref (ad 0)), (1, .int a1), (2, .int a2)] dX10_beside_83 (by decide) rfl rfl ?_
            refine jj_iload (pc2 := 87) hC dX10_beside_85 0 rfl rfl ?_
            refine jj_if_ne (pc2 := 90) hC 103 dX10_beside_87 (by decide) rfl (fun _ => ?_) (fun h73 => absurd h73 (by decide))
            refine jj_aload_n (pc2 := 104) hC dX10_beside_103 rfl 5 rfl rfl ?_
            refine cg_M_now (pc2 := 107) hC hi_X10_beside_X10 lk_X10_beside_5 dX10_beside_104 rfl ?_
            refine jj_dup (pc2 := 108) hC dX10_beside_107 rfl rfl ?_
            refine cg_H_besides (pc2 := 111) hC hi_X10_beside_X4 lk_X10_beside_6 dX10_beside_108 rfl ?_
            refine jj_iconst (pc2 := 112) hC 1 dX10_beside_111 (by decide) rfl ?_
            refine jj_iadd (pc2 := 113) hC dX10_beside_112 rfl ?_
            refine cp_H_besides (pc2 := 116) hC hi_X10_beside_X4 lk_X10_beside_6 dX10_beside_113 rfl (fun g74 eg74 => ?_)
            have hV := hV g74 eg74
            refine jj_iload (pc2 := 118) hC dX10_beside_116 0 rfl rfl ?_
            refine jj_if_eq (pc2 := 121) hC 125 dX10_beside_118 (by decide) rfl (fun h75 => absurd h75 (by decide)) (fun _ => ?_)
            refine jj_iconst (pc2 := 122) hC 1 dX10_beside_121 (by decide) rfl ?_
            refine jj_goto hC 126 dX10_beside_122 (by decide) ?_
            obtain ⟨hb1, hb2, hV⟩ := hV
            refine jj_widen (k := MC) (n := MS) hb1 hb2 ?_
            exact jj_iret hC dX10_beside_126 hV
  · have hV := hV.2 h2
    refine jj_iconst (pc2 := 12) hC (-1) dX10_beside_11 (by decide) rfl ?_
    refine jj_widen (k := MC) (n := MS) (Nat.zero_le _) (Nat.zero_le _) ?_
    exact jj_iret hC dX10_beside_12 hV
