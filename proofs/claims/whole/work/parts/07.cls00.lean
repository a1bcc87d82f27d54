theorem hi_X0_begin_X0 : ∀ w ∈ u_ws RX0 TX0 10, w ∈ wsX0_begin := fun _ h => List.mem_cons_of_mem _ (List.mem_append_right _ h)
theorem lk_X0_begin_8 : Cond.fieldLink RX0 19 "PartedHouse$Act" "written" "[I" ∈ wsX0_begin := List.mem_of_getElem? (i := 8) rfl
theorem lk_X0_begin_7 : Cond.fieldLink RX0 15 "PartedHouse$Act" "isWritten" "[Z" ∈ wsX0_begin := List.mem_of_getElem? (i := 7) rfl
theorem lk_X0_begin_6 : Cond.fieldLink RX0 57 "PartedHouse$Act" "writtenCount" "I" ∈ wsX0_begin := List.mem_of_getElem? (i := 6) rfl
theorem lk_X0_begin_11 : Cond.fieldLink RX0 63 "PartedHouse$Act" "value" "I" ∈ wsX0_begin := List.mem_of_getElem? (i := 11) rfl
theorem lk_X0_begin_10 : Cond.fieldLink RX0 43 "PartedHouse$Act" "open" "I" ∈ wsX0_begin := List.mem_of_getElem? (i := 10) rfl
theorem lk_X0_begin_9 : Cond.fieldLink RX0 60 "PartedHouse$Act" "tieCount" "I" ∈ wsX0_begin := List.mem_of_getElem? (i := 9) rfl
theorem lk_X0_begin_2 : Cond.methodLink RX0 51 arraycopyName ∈ wsX0_begin := List.mem_of_getElem? (i := 2) rfl
theorem lk_X0_begin_3 : Cond.native arraycopyName ∈ wsX0_begin := List.mem_of_getElem? (i := 3) rfl
theorem lk_X0_begin_4 : Cond.static arraycopyName ∈ wsX0_begin := List.mem_of_getElem? (i := 4) rfl
theorem lk_X0_begin_5 : Cond.initialized "java/lang/System" ∈ wsX0_begin := List.mem_of_getElem? (i := 5) rfl
theorem lk_X0_begin_1 : Cond.fieldLink RX0 9 "PartedHouse$Act" "cells" "[I" ∈ wsX0_begin := List.mem_of_getElem? (i := 1) rfl
abbrev rm_X0_begin : Room := { frames := 1, cells := 0, slots := 0, locals := 40 }
def vc_X0_begin_15 (kk : Nat) (x2 : Int32) (K41 : cm_M → Prop) (Post : cm_M → Prop) : Nat → Int32 → cm_M → Prop
  | 0, _, _ => False
  | f + 1, x3, g => (((g.2.2 21 0) ≤ x3) → (K41 g)) ∧ ((¬ (g.2.2 21 0) ≤ x3) → ((vp_in x3 128) ∧ ((vp_in (g.2.2 17 x3.toNatClampNeg) 128) ∧ (∀ g3 : cm_M, g3 = cm_a g 16 (g.2.2 17 x3.toNatClampNeg) 0 → (vc_X0_begin_15 kk x2 K41 Post f (x3 + 1) g3)))))
def vc_X0_begin (kk : Nat) (a2 : Int32) (g0 : cm_M) (Post : cm_M → Prop) : Prop := ∀ g1 : cm_M, g1 = cm_u g0 15 (va_cpy (g0.2.2 kk) (g0.2.2 15) 0 0 128) → (∃ n9 : Nat, vc_X0_begin_15 kk a2 (fun (g4 : cm_M) => ∀ g5 : cm_M, g5 = cm_s g4 21 0 → (∀ g6 : cm_M, g6 = cm_s g5 22 0 → (∀ g7 : cm_M, g7 = cm_s g6 23 0 → (∀ g8 : cm_M, g8 = cm_s g7 24 a2 → (Post g8))))) Post n9 0 g1)
set_option maxHeartbeats 4000000 in
set_option maxRecDepth 100000 in
theorem ac_X0_begin_oldCells_15 {p : Program} {l : Launch} {e : Env} {s : State} {m : MethodId} {args : Array Value} {below : List Frame} {meth : Method} {c : Code} {D : va_G} {cs : Nat → ClassId} {Y X : va_W} {ad : Nat → Nat} {g0 : cm_M} (hC : JC p s m args meth c D vwCl (va_A (wc_d Y X cs ad g0) s.heap.size) 4 cX0_begin none wsX0_begin RX0 (jt_tys cs)) (x2 : Int32) (Post : cm_M → Prop) (K41 : cm_M → Prop) (hK41 : ∀ (g : cm_M) , K41 g → JJ (wc_d Y X cs ad) p l e rm_X0_begin s m args below meth c D vwCl (va_A (wc_d Y X cs ad g0) s.heap.size) 4 0 0 (MQ below (jj_QV (wc_d Y X cs ad) D vwCl (jt_tys cs) g0 s.heap.size Post) args s 0 0 (va_A (wc_d Y X cs ad g0) s.heap.size)) 41 [(0, .ref (ad 2)), (2, .int x2)] [] g) : ∀ (f : Nat) (x3 : Int32) (g : cm_M), vc_X0_begin_15 25 x2 K41 Post f x3 g → JJ (wc_d Y X cs ad) p l e rm_X0_begin s m args below meth c D vwCl (va_A (wc_d Y X cs ad g0) s.heap.size) 4 0 0 (MQ below (jj_QV (wc_d Y X cs ad) D vwCl (jt_tys cs) g0 s.heap.size Post) args s 0 0 (va_A (wc_d Y X cs ad g0) s.heap.size)) 15 [(0, .ref (ad 2)), (2, .int x2), (3, .int x3)] [] g := by
  intro f
  induction f with
  | zero => intro x3 g hV; exact hV.elim
  | succ f ih =>
    intro x3 g hV
    rw [vc_X0_begin_15] at hV
    refine jj_iload_n (pc2 := 16) hC dX0_begin_15 rfl 2 rfl rfl ?_
    refine jj_aload_n (pc2 := 17) hC dX0_begin_16 rfl 0 rfl rfl ?_
    refine cg_A_writtenCount (pc2 := 20) hC hi_X0_begin_X0 lk_X0_begin_6 dX0_begin_17 rfl ?_
    refine jj_icmp_ge (pc2 := 23) hC 41 dX0_begin_20 (by decide) rfl (fun h2 => ?_) (fun h2 => ?_)
    · have hV := hV.1 h2
      exact jj_sub (lv2 := [(0, .ref (ad 2)), (2, .int x2)]) [0, 1] rfl (hK41 g hV)
    · have hV := hV.2 h2
      refine jj_aload_n (pc2 := 24) hC dX0_begin_23 rfl 0 rfl rfl ?_
      refine cg_A_isWritten (pc2 := 27) hC hi_X0_begin_X0 lk_X0_begin_7 dX0_begin_24 rfl ?_
      refine jj_aload_n (pc2 := 28) hC dX0_begin_27 rfl 0 rfl rfl ?_
      refine cg_A_written (pc2 := 31) hC hi_X0_begin_X0 lk_X0_begin_8 dX0_begin_28 rfl ?_
      refine jj_iload_n (pc2 := 32) hC dX0_begin_31 rfl 2 rfl rfl ?_
      refine cl_A_written (pc2 := 33) hC hV.1 dX0_begin_32 rfl ?_
      have hV := hV.2
      refine jj_iconst (pc2 := 34) hC 0 dX0_begin_33 (by decide) rfl ?_
      refine ct_A_isWritten (pc2 := 35) hC hV.1 jj_nb0 dX0_begin_34 rfl (fun g3 eg3 => ?_)
      have hV := hV.2 g3 eg3
      refine jj_iinc (pc2 := 38) hC (x3 + 1) [(3, .int (x3 + 1)), (0, .ref (ad 2)), (2, .int x2)] dX0_begin_35 2 rfl rfl (by decide) rfl rfl ?_
      refine jj_goto hC 15 dX0_begin_38 (by decide) ?_
      exact jj_sub (lv2 := [(0, .ref (ad 2)), (2, .int x2), (3, .int (x3 + 1))]) [1, 2, 0] rfl (ih (x3 + 1) g3 hV)
set_option maxHeartbeats 4000000 in
set_option maxRecDepth 100000 in
theorem kc_X0_begin_oldCells (l : Launch) (D : va_G) (cs : Nat → ClassId) (Y X : va_W) (ad : Nat → Nat) (a2 : Int32) (g0 : cm_M) (Post : cm_M → Prop) (hV : vc_X0_begin 25 a2 g0 Post) : JV (wc_d Y X cs ad) D vwCl (jt_tys cs) l yX0_begin wsX0_begin rm_X0_begin 0 0 [.ref (ad 2), .ref (ad 30), .int a2] g0 Post := by
  refine jj_metV (cc := cX0_begin) (nL := 4) (ret := none) (by decide) rfl (Nat.le_of_ble_eq_true rfl) [(0, .ref (ad 2)), (1, .ref (ad 30)), (2, .int a2)] rfl ?_
  intro p e s m args below meth c hC hnm
  rw [vc_X0_begin] at hV
  refine jj_aload_n (pc2 := 1) hC dX0_begin_0 rfl 1 rfl rfl ?_
  refine jj_iconst (pc2 := 2) hC 0 dX0_begin_1 (by decide) rfl ?_
  refine jj_aload_n (pc2 := 3) hC dX0_begin_2 rfl 0 rfl rfl ?_
  refine cg_A_cells (pc2 := 6) hC hi_X0_begin_X0 lk_X0_begin_1 dX0_begin_3 rfl ?_
  refine jj_iconst (pc2 := 7) hC 0 dX0_begin_6 (by decide) rfl ?_
  refine jj_sipush (pc2 := 10) hC 128 dX0_begin_7 (by decide) rfl ?_
  refine jj_copyi (pc2 := 13) (wd := wc_d Y X cs ad) (g := g0) (rest := []) hC lk_X0_begin_2 lk_X0_begin_3 lk_X0_begin_4 lk_X0_begin_5 (Y.length + 30) (Y.length + 24) 0 (jx_at (V := wc_W cs ad g0) rfl) (jx_at (V := wc_W cs ad g0) rfl) rfl (by decide) (by decide) (by decide) (sN := 0) (dN := 0) (nN := 128) (by decide) (by decide) (by decide) (by decide) (by decide) (by decide) (Nat.le_of_ble_eq_true rfl) (cm_u g0 15 (va_cpy (g0.2.2 25) (g0.2.2 15) 0 0 128)) (jx_set (V := wc_W cs ad g0) (V2 := wc_W cs ad (cm_u g0 15 (va_cpy (g0.2.2 25) (g0.2.2 15) 0 0 128))) (Nat.le_of_ble_eq_true rfl) rfl) dX0_begin_10 rfl ?_
  refine jj_mem (fun g1 eg1 => ?_)
  have hV := hV g1 eg1
  refine jj_iconst (pc2 := 14) hC 0 dX0_begin_13 (by decide) rfl ?_
  refine jj_istore_n (pc2 := 15) hC [(3, .int 0), (0, .ref (ad 2)), (1, .ref (ad 30)), (2, .int a2)] dX0_begin_14 rfl (by decide) rfl rfl ?_
  obtain ⟨n9, hV⟩ := hV
  refine jj_sub (lv2 := [(0, .ref (ad 2)), (2, .int a2), (3, .int 0)]) [1, 3, 0] rfl (ac_X0_begin_oldCells_15 hC a2 Post _ (fun g4 hV => ?_) n9 0 g1 hV)
  refine jj_aload_n (pc2 := 42) hC dX0_begin_41 rfl 0 rfl rfl ?_
  refine jj_iconst (pc2 := 43) hC 0 dX0_begin_42 (by decide) rfl ?_
  refine cp_A_writtenCount (pc2 := 46) hC hi_X0_begin_X0 lk_X0_begin_6 dX0_begin_43 rfl (fun g5 eg5 => ?_)
  have hV := hV g5 eg5
  refine jj_aload_n (pc2 := 47) hC dX0_begin_46 rfl 0 rfl rfl ?_
  refine jj_iconst (pc2 := 48) hC 0 dX0_begin_47 (by decide) rfl ?_
  refine cp_A_tieCount (pc2 := 51) hC hi_X0_begin_X0 lk_X0_begin_9 dX0_begin_48 rfl (fun g6 eg6 => ?_)
  have hV := hV g6 eg6
  refine jj_aload_n (pc2 := 52) hC dX0_begin_51 rfl 0 rfl rfl ?_
  refine jj_iconst (pc2 := 53) hC 0 dX0_begin_52 (by decide) rfl ?_
  refine cp_A_open (pc2 := 56) hC hi_X0_begin_X0 lk_X0_begin_10 dX0_begin_53 rfl (fun g7 eg7 => ?_)
  have hV := hV g7 eg7
  refine jj_aload_n (pc2 := 57) hC dX0_begin_56 rfl 0 rfl rfl ?_
  refine jj_iload_n (pc2 := 58) hC dX0_begin_57 rfl 1 rfl rfl ?_
  refine cp_A_value (pc2 := 61) hC hi_X0_begin_X0 lk_X0_begin_11 dX0_begin_58 rfl (fun g8 eg8 => ?_)
  have hV := hV g8 eg8
  exact jj_vret hC dX0_begin_61 hV
set_option maxHeartbeats 4000000 in
set_option maxRecDepth 100000 in
theorem ac_X0_begin_newCells_15 {p : Program} {l : Launch} {e : Env} {s : State} {m : MethodId} {args : Array Value} {below : List Frame} {meth : Method} {c : Code} {D : va_G} {cs : Nat → ClassId} {Y X : va_W} {ad : Nat → Nat} {g0 : cm_M} (hC : JC p s m args meth c D vwCl (va_A (wc_d Y X cs ad g0) s.heap.size) 4 cX0_begin none wsX0_begin RX0 (jt_tys cs)) (x2 : Int32) (Post : cm_M → Prop) (K41 : cm_M → Prop) (hK41 : ∀ (g : cm_M) , K41 g → JJ (wc_d Y X cs ad) p l e rm_X0_begin s m args below meth c D vwCl (va_A (wc_d Y X cs ad g0) s.heap.size) 4 0 0 (MQ below (jj_QV (wc_d Y X cs ad) D vwCl (jt_tys cs) g0 s.heap.size Post) args s 0 0 (va_A (wc_d Y X cs ad g0) s.heap.size)) 41 [(0, .ref (ad 2)), (2, .int x2)] [] g) : ∀ (f : Nat) (x3 : Int32) (g : cm_M), vc_X0_begin_15 26 x2 K41 Post f x3 g → JJ (wc_d Y X cs ad) p l e rm_X0_begin s m args below meth c D vwCl (va_A (wc_d Y X cs ad g0) s.heap.size) 4 0 0 (MQ below (jj_QV (wc_d Y X cs ad) D vwCl (jt_tys cs) g0 s.heap.size Post) args s 0 0 (va_A (wc_d Y X cs ad g0) s.heap.size)) 15 [(0, .ref (ad 2)), (2, .int x2), (3, .int x3)] [] g := by
  intro f
  induction f with
  | zero => intro x3 g hV; exact hV.elim
  | succ f ih =>
    intro x3 g hV
    rw [vc_X0_begin_15] at hV
    refine jj_iload_n (pc2 := 16) hC dX0_begin_15 rfl 2 rfl rfl ?_
    refine jj_aload_n (pc2 := 17) hC dX0_begin_16 rfl 0 rfl rfl ?_
    refine cg_A_writtenCount (pc2 := 20) hC hi_X0_begin_X0 lk_X0_begin_6 dX0_begin_17 rfl ?_
    refine jj_icmp_ge (pc2 := 23) hC 41 dX0_begin_20 (by decide) rfl (fun h2 => ?_) (fun h2 => ?_)
    · have hV := hV.1 h2
      exact jj_sub (lv2 := [(0, .ref (ad 2)), (2, .int x2)]) [0, 1] rfl (hK41 g hV)
    · have hV := hV.2 h2
      refine jj_aload_n (pc2 := 24) hC dX0_begin_23 rfl 0 rfl rfl ?_
      refine cg_A_isWritten (pc2 := 27) hC hi_X0_begin_X0 lk_X0_begin_7 dX0_begin_24 rfl ?_
      refine jj_aload_n (pc2 := 28) hC dX0_begin_27 rfl 0 rfl rfl ?_
      refine cg_A_written (pc2 := 31) hC hi_X0_begin_X0 lk_X0_begin_8 dX0_begin_28 rfl ?_
      refine jj_iload_n (pc2 := 32) hC dX0_begin_31 rfl 2 rfl rfl ?_
      refine cl_A_written (pc2 := 33) hC hV.1 dX0_begin_32 rfl ?_
      have hV := hV.2
      refine jj_iconst (pc2 := 34) hC 0 dX0_begin_33 (by decide) rfl ?_
      refine ct_A_isWritten (pc2 := 35) hC hV.1 jj_nb0 dX0_begin_34 rfl (fun g3 eg3 => ?_)
      have hV := hV.2 g3 eg3
      refine jj_iinc (pc2 := 38) hC (x3 + 1) [(3, .int (x3 + 1)), (0, .ref (ad 2)), (2, .int x2)] dX0_begin_35 2 rfl rfl (by decide) rfl rfl ?_
      refine jj_goto hC 15 dX0_begin_38 (by decide) ?_
      exact jj_sub (lv2 := [(0, .ref (ad 2)), (2, .int x2), (3, .int (x3 + 1))]) [1, 2, 0] rfl (ih (x3 + 1) g3 hV)
set_option maxHeartbeats 4000000 in
set_option maxRecDepth 100000 in
theorem kc_X0_begin_newCells (l : Launch) (D : va_G) (cs : Nat → ClassId) (Y X : va_W) (ad : Nat → Nat) (a2 : Int32) (g0 : cm_M) (Post : cm_M → Prop) (hV : vc_X0_begin 26 a2 g0 Post) : JV (wc_d Y X cs ad) D vwCl (jt_tys cs) l yX0_begin wsX0_begin rm_X0_begin 0 0 [.ref (ad 2), .ref (ad 31), .int a2] g0 Post := by
  refine jj_metV (cc := cX0_begin) (nL := 4) (ret := none) (by decide) rfl (Nat.le_of_ble_eq_true rfl) [(0, .ref (ad 2)), (1, .ref (ad 31)), (2, .int a2)] rfl ?_
  intro p e s m args below meth c hC hnm
  rw [vc_X0_begin] at hV
  refine jj_aload_n (pc2 := 1) hC dX0_begin_0 rfl 1 rfl rfl ?_
  refine jj_iconst (pc2 := 2) hC 0 dX0_begin_1 (by decide) rfl ?_
  refine jj_aload_n (pc2 := 3) hC dX0_begin_2 rfl 0 rfl rfl ?_
  refine cg_A_cells (pc2 := 6) hC hi_X0_begin_X0 lk_X0_begin_1 dX0_begin_3 rfl ?_
  refine jj_iconst (pc2 := 7) hC 0 dX0_begin_6 (by decide) rfl ?_
  refine jj_sipush (pc2 := 10) hC 128 dX0_begin_7 (by decide) rfl ?_
  refine jj_copyi (pc2 := 13) (wd := wc_d Y X cs ad) (g := g0) (rest := []) hC lk_X0_begin_2 lk_X0_begin_3 lk_X0_begin_4 lk_X0_begin_5 (Y.length + 31) (Y.length + 24) 0 (jx_at (V := wc_W cs ad g0) rfl) (jx_at (V := wc_W cs ad g0) rfl) rfl (by decide) (by decide) (by decide) (sN := 0) (dN := 0) (nN := 128) (by decide) (by decide) (by decide) (by decide) (by decide) (by decide) (Nat.le_of_ble_eq_true rfl) (cm_u g0 15 (va_cpy (g0.2.2 26) (g0.2.2 15) 0 0 128)) (jx_set (V := wc_W cs ad g0) (V2 := wc_W cs ad (cm_u g0 15 (va_cpy (g0.2.2 26) (g0.2.2 15) 0 0 128))) (Nat.le_of_ble_eq_true rfl) rfl) dX0_begin_10 rfl ?_
  refine jj_mem (fun g1 eg1 => ?_)
  have hV := hV g1 eg1
  refine jj_iconst (pc2 := 14) hC 0 dX0_begin_13 (by decide) rfl ?_
  refine jj_istore_n (pc2 := 15) hC [(3, .int 0), (0, .ref (ad 2)), (1, .ref (ad 31)), (2, .int a2)] dX0_begin_14 rfl (by decide) rfl rfl ?_
  obtain ⟨n9, hV⟩ := hV
  refine jj_sub (lv2 := [(0, .ref (ad 2)), (2, .int a2), (3, .int 0)]) [1, 3, 0] rfl (ac_X0_begin_newCells_15 hC a2 Post _ (fun g4 hV => ?_) n9 0 g1 hV)
  refine jj_aload_n (pc2 := 42) hC dX0_begin_41 rfl 0 rfl rfl ?_
  refine jj_iconst (pc2 := 43) hC 0 dX0_begin_42 (by decide) rfl ?_
  refine cp_A_writtenCount (pc2 := 46) hC hi_X0_begin_X0 lk_X0_begin_6 dX0_begin_43 rfl (fun g5 eg5 => ?_)
  have hV := hV g5 eg5
  refine jj_aload_n (pc2 := 47) hC dX0_begin_46 rfl 0 rfl rfl ?_
  refine jj_iconst (pc2 := 48) hC 0 dX0_begin_47 (by decide) rfl ?_
  refine cp_A_tieCount (pc2 := 51) hC hi_X0_begin_X0 lk_X0_begin_9 dX0_begin_48 rfl (fun g6 eg6 => ?_)
  have hV := hV g6 eg6
  refine jj_aload_n (pc2 := 52) hC dX0_begin_51 rfl 0 rfl rfl ?_
  refine jj_iconst (pc2 := 53) hC 0 dX0_begin_52 (by decide) rfl ?_
  refine cp_A_open (pc2 := 56) hC hi_X0_begin_X0 lk_X0_begin_10 dX0_begin_53 rfl (fun g7 eg7 => ?_)
  have hV := hV g7 eg7
  refine jj_aload_n (pc2 := 57) hC dX0_begin_56 rfl 0 rfl rfl ?_
  refine jj_iload_n (pc2 := 58) hC dX0_begin_57 rfl 1 rfl rfl ?_
  refine cp_A_value (pc2 := 61) hC hi_X0_begin_X0 lk_X0_begin_11 dX0_begin_58 rfl (fun g8 eg8 => ?_)
  have hV := hV g8 eg8
  exact jj_vret hC dX0_begin_61 hV
theorem hi_X0_enter_X0 : ∀ w ∈ u_ws RX0 TX0 10, w ∈ wsX0_enter := fun _ h => List.mem_cons_of_mem _ (List.mem_append_right _ h)
theorem lk_X0_enter_1 : Cond.fieldLink RX0 43 "PartedHouse$Act" "open" "I" ∈ wsX0_enter := List.mem_of_getElem? (i := 1) rfl
theorem lk_X0_enter_3 : Cond.fieldLink RX0 28 "PartedHouse$Act" "nextLines" "[I" ∈ wsX0_enter := List.mem_of_getElem? (i := 3) rfl
theorem lk_X0_enter_2 : Cond.fieldLink RX0 25 "PartedHouse$Act" "openRoutines" "[I" ∈ wsX0_enter := List.mem_of_getElem? (i := 2) rfl
abbrev rm_X0_enter : Room := { frames := 0, cells := 0, slots := 0, locals := 0 }
def vc_X0_enter (a1 : Int32) (g0 : cm_M) (Post : Int32 → cm_M → Prop) : Prop := (((g0.2.2 23 0) < 8) → ((vp_in (g0.2.2 23 0) 8) ∧ (∀ g2 : cm_M, g2 = cm_a g0 19 (g0.2.2 23 0) a1 → ((vp_in (g2.2.2 23 0) 8) ∧ (∀ g3 : cm_M, g3 = cm_a g2 20 (g2.2.2 23 0) 0 → (∀ g4 : cm_M, g4 = cm_s g3 23 ((g3.2.2 23 0) + 1) → (Post 1 g4))))))) ∧ ((¬ (g0.2.2 23 0) < 8) → (Post 0 g0))
set_option maxHeartbeats 4000000 in
set_option maxRecDepth 100000 in
theorem kc_X0_enter (l : Launch) (D : va_G) (cs : Nat → ClassId) (Y X : va_W) (ad : Nat → Nat) (a1 : Int32) (g0 : cm_M) (Post : Int32 → cm_M → Prop) (hV : vc_X0_enter a1 g0 Post) : JI (wc_d Y X cs ad) D vwCl (jt_tys cs) l yX0_enter wsX0_enter rm_X0_enter 0 0 [.ref (ad 2), .int a1] g0 Post := by
  refine jj_metI (cc := cX0_enter) (nL := 2) (ret := (some .boolean)) (by decide) rfl (Nat.le_of_ble_eq_true rfl) [(0, .ref (ad 2)), (1, .int a1)] rfl ?_
  intro p e s m args below meth c hC hnm
  rw [vc_X0_enter] at hV
  refine jj_aload_n (pc2 := 1) hC dX0_enter_0 rfl 0 rfl rfl ?_
  refine cg_A_open (pc2 := 4) hC hi_X0_enter_X0 lk_X0_enter_1 dX0_enter_1 rfl ?_
  refine jj_bipush (pc2 := 6) hC 8 dX0_enter_4 (by decide) rfl ?_
  refine jj_icmp_lt (pc2 := 9) hC 11 dX0_enter_6 (by decide) rfl (fun h1 => ?_) (fun h1 => ?_)
  · have hV := hV.1 h1
    refine jj_aload_n (pc2 := 12) hC dX0_enter_11 rfl 0 rfl rfl ?_
    refine cg_A_openRoutines (pc2 := 15) hC hi_X0_enter_X0 lk_X0_enter_2 dX0_enter_12 rfl ?_
    refine jj_aload_n (pc2 := 16) hC dX0_enter_15 rfl 0 rfl rfl ?_
    refine cg_A_open (pc2 := 19) hC hi_X0_enter_X0 lk_X0_enter_1 dX0_enter_16 rfl ?_
    refine jj_iload_n (pc2 := 20) hC dX0_enter_19 rfl 1 rfl rfl ?_
    refine ct_A_openRoutines (pc2 := 21) hC hV.1 dX0_enter_20 rfl (fun g2 eg2 => ?_)
    have hV := hV.2 g2 eg2
    refine jj_aload_n (pc2 := 22) hC dX0_enter_21 rfl 0 rfl rfl ?_
    refine cg_A_nextLines (pc2 := 25) hC hi_X0_enter_X0 lk_X0_enter_3 dX0_enter_22 rfl ?_
    refine jj_aload_n (pc2 := 26) hC dX0_enter_25 rfl 0 rfl rfl ?_
    refine cg_A_open (pc2 := 29) hC hi_X0_enter_X0 lk_X0_enter_1 dX0_enter_26 rfl ?_
    refine jj_iconst (pc2 := 30) hC 0 dX0_enter_29 (by decide) rfl ?_
    refine ct_A_nextLines (pc2 := 31) hC hV.1 dX0_enter_30 rfl (fun g3 eg3 => ?_)
    have hV := hV.2 g3 eg3
    refine jj_aload_n (pc2 := 32) hC dX0_enter_31 rfl 0 rfl rfl ?_
    refine jj_dup (pc2 := 33) hC dX0_enter_32 rfl rfl ?_
    refine cg_A_open (pc2 := 36) hC hi_X0_enter_X0 lk_X0_enter_1 dX0_enter_33 rfl ?_
    refine jj_iconst (pc2 := 37) hC 1 dX0_enter_36 (by decide) rfl ?_
    refine jj_iadd (pc2 := 38) hC dX0_enter_37 rfl ?_
    refine cp_A_open (pc2 := 41) hC hi_X0_enter_X0 lk_X0_enter_1 dX0_enter_38 rfl (fun g4 eg4 => ?_)
    have hV := hV g4 eg4
    refine jj_iconst (pc2 := 42) hC 1 dX0_enter_41 (by decide) rfl ?_
    exact jj_zret hC jj_nb1 dX0_enter_42 hV
  · have hV := hV.2 h1
    refine jj_iconst (pc2 := 10) hC 0 dX0_enter_9 (by decide) rfl ?_
    exact jj_zret hC jj_nb0 dX0_enter_10 hV
theorem hi_X0_leaveEnded_X0 : ∀ w ∈ u_ws RX0 TX0 10, w ∈ wsX0_leaveEnded := fun _ h => List.mem_cons_of_mem _ (List.mem_append_left _ (List.mem_append_right _ h))
theorem lk_X0_leaveEnded_1 : Cond.fieldLink RX0 43 "PartedHouse$Act" "open" "I" ∈ wsX0_leaveEnded := List.mem_of_getElem? (i := 1) rfl
theorem lk_X0_leaveEnded_4 : Cond.fieldLink RX0 25 "PartedHouse$Act" "openRoutines" "[I" ∈ wsX0_leaveEnded := List.mem_of_getElem? (i := 4) rfl
theorem hi_X0_leaveEnded_X9 : ∀ w ∈ u_ws RX9 TX9 11, w ∈ wsX0_leaveEnded := fun _ h => List.mem_cons_of_mem _ (List.mem_append_right _ h)
theorem lk_X0_leaveEnded_3 : Cond.fieldLink RX0 66 "PartedHouse$Text" "lengths" "[I" ∈ wsX0_leaveEnded := List.mem_of_getElem? (i := 3) rfl
theorem lk_X0_leaveEnded_2 : Cond.fieldLink RX0 28 "PartedHouse$Act" "nextLines" "[I" ∈ wsX0_leaveEnded := List.mem_of_getElem? (i := 2) rfl
abbrev rm_X0_leaveEnded : Room := { frames := 0, cells := 0, slots := 0, locals := 0 }
def vc_X0_leaveEnded_0 (Post : cm_M → Prop) : Nat → cm_M → Prop
  | 0, _ => False
  | f + 1, g => (((g.2.2 23 0) ≤ 0) → (Post g)) ∧ ((¬ (g.2.2 23 0) ≤ 0) → ((vp_in ((g.2.2 23 0) - 1) 8) ∧ ((vp_in ((g.2.2 23 0) - 1) 8) ∧ ((vp_in (g.2.2 19 ((g.2.2 23 0) - 1).toNatClampNeg) 40) ∧ ((((g.2.2 20 ((g.2.2 23 0) - 1).toNatClampNeg) < (g.2.2 7 (g.2.2 19 ((g.2.2 23 0) - 1).toNatClampNeg).toNatClampNeg)) → (Post g)) ∧ ((¬ (g.2.2 20 ((g.2.2 23 0) - 1).toNatClampNeg) < (g.2.2 7 (g.2.2 19 ((g.2.2 23 0) - 1).toNatClampNeg).toNatClampNeg)) → (∀ g3 : cm_M, g3 = cm_s g 23 ((g.2.2 23 0) - 1) → (vc_X0_leaveEnded_0 Post f g3))))))))
def vc_X0_leaveEnded (g0 : cm_M) (Post : cm_M → Prop) : Prop := ∃ n4 : Nat, vc_X0_leaveEnded_0 Post n4 g0
set_option maxHeartbeats 4000000 in
set_option maxRecDepth 100000 in
theorem ac_X0_leaveEnded_0 {p : Program} {l : Launch} {e : Env} {s : State} {m : MethodId} {args : Array Value} {below : List Frame} {meth : Method} {c : Code} {D : va_G} {cs : Nat → ClassId} {Y X : va_W} {ad : Nat → Nat} {g0 : cm_M} (hC : JC p s m args meth c D vwCl (va_A (wc_d Y X cs ad g0) s.heap.size) 2 cX0_leaveEnded none wsX0_leaveEnded RX0 (jt_tys cs)) (Post : cm_M → Prop) : ∀ (f : Nat) (g : cm_M), vc_X0_leaveEnded_0 Post f g → JJ (wc_d Y X cs ad) p l e rm_X0_leaveEnded s m args below meth c D vwCl (va_A (wc_d Y X cs ad g0) s.heap.size) 2 0 0 (MQ below (jj_QV (wc_d Y X cs ad) D vwCl (jt_tys cs) g0 s.heap.size Post) args s 0 0 (va_A (wc_d Y X cs ad g0) s.heap.size)) 0 [(0, .ref (ad 2)), (1, .ref (ad 1))] [] g := by
  intro f
  induction f with
  | zero => intro g hV; exact hV.elim
  | succ f ih =>
    intro g hV
    rw [vc_X0_leaveEnded_0] at hV
    refine jj_aload_n (pc2 := 1) hC dX0_leaveEnded_0 rfl 0 rfl rfl ?_
    refine cg_A_open (pc2 := 4) hC hi_X0_leaveEnded_X0 lk_X0_leaveEnded_1 dX0_leaveEnded_1 rfl ?_
    refine jj_if_le (pc2 := 7) hC 50 dX0_leaveEnded_4 (by decide) rfl (fun h1 => ?_) (fun h1 => ?_)
    · have hV := hV.1 h1
      exact jj_vret hC dX0_leaveEnded_50 hV
    · have hV := hV.2 h1
      refine jj_aload_n (pc2 := 8) hC dX0_leaveEnded_7 rfl 0 rfl rfl ?_
      refine cg_A_nextLines (pc2 := 11) hC hi_X0_leaveEnded_X0 lk_X0_leaveEnded_2 dX0_leaveEnded_8 rfl ?_
      refine jj_aload_n (pc2 := 12) hC dX0_leaveEnded_11 rfl 0 rfl rfl ?_
      refine cg_A_open (pc2 := 15) hC hi_X0_leaveEnded_X0 lk_X0_leaveEnded_1 dX0_leaveEnded_12 rfl ?_
      refine jj_iconst (pc2 := 16) hC 1 dX0_leaveEnded_15 (by decide) rfl ?_
      refine jj_isub (pc2 := 17) hC dX0_leaveEnded_16 rfl ?_
      refine cl_A_nextLines (pc2 := 18) hC hV.1 dX0_leaveEnded_17 rfl ?_
      have hV := hV.2
      refine jj_aload_n (pc2 := 19) hC dX0_leaveEnded_18 rfl 1 rfl rfl ?_
      refine cg_T_lengths (pc2 := 22) hC hi_X0_leaveEnded_X9 lk_X0_leaveEnded_3 dX0_leaveEnded_19 rfl ?_
      refine jj_aload_n (pc2 := 23) hC dX0_leaveEnded_22 rfl 0 rfl rfl ?_
      refine cg_A_openRoutines (pc2 := 26) hC hi_X0_leaveEnded_X0 lk_X0_leaveEnded_4 dX0_leaveEnded_23 rfl ?_
      refine jj_aload_n (pc2 := 27) hC dX0_leaveEnded_26 rfl 0 rfl rfl ?_
      refine cg_A_open (pc2 := 30) hC hi_X0_leaveEnded_X0 lk_X0_leaveEnded_1 dX0_leaveEnded_27 rfl ?_
      refine jj_iconst (pc2 := 31) hC 1 dX0_leaveEnded_30 (by decide) rfl ?_
      refine jj_isub (pc2 := 32) hC dX0_leaveEnded_31 rfl ?_
      refine cl_A_openRoutines (pc2 := 33) hC hV.1 dX0_leaveEnded_32 rfl ?_
      have hV := hV.2
      refine cl_T_lengths (pc2 := 34) hC hV.1 dX0_leaveEnded_33 rfl ?_
      have hV := hV.2
      refine jj_icmp_lt (pc2 := 37) hC 50 dX0_leaveEnded_34 (by decide) rfl (fun h2 => ?_) (fun h2 => ?_)
      · have hV := hV.1 h2
        exact jj_vret hC dX0_leaveEnded_50 hV
      · have hV := hV.2 h2
        refine jj_aload_n (pc2 := 38) hC dX0_leaveEnded_37 rfl 0 rfl rfl ?_
        refine jj_dup (pc2 := 39) hC dX0_leaveEnded_38 rfl rfl ?_
        refine cg_A_open (pc2 := 42) hC hi_X0_leaveEnded_X0 lk_X0_leaveEnded_1 dX0_leaveEnded_39 rfl ?_
        refine jj_iconst (pc2 := 43) hC 1 dX0_leaveEnded_42 (by decide) rfl ?_
        refine jj_isub (pc2 := 44) hC dX0_leaveEnded_43 rfl ?_
        refine cp_A_open (pc2 := 47) hC hi_X0_leaveEnded_X0 lk_X0_leaveEnded_1 dX0_leaveEnded_44 rfl (fun g3 eg3 => ?_)
        have hV := hV g3 eg3
        refine jj_goto hC 0 dX0_leaveEnded_47 (by decide) ?_
        exact (ih g3 hV)
set_option maxHeartbeats 4000000 in
set_option maxRecDepth 100000 in
theorem kc_X0_leaveEnded (l : Launch) (D : va_G) (cs : Nat → ClassId) (Y X : va_W) (ad : Nat → Nat) (g0 : cm_M) (Post : cm_M → Prop) (hV : vc_X0_leaveEnded g0 Post) : JV (wc_d Y X cs ad) D vwCl (jt_tys cs) l yX0_leaveEnded wsX0_leaveEnded rm_X0_leaveEnded 0 0 [.ref (ad 2), .ref (ad 1)] g0 Post := by
  refine jj_metV (cc := cX0_leaveEnded) (nL := 2) (ret := none) (by decide) rfl (Nat.le_of_ble_eq_true rfl) [(0, .ref (ad 2)), (1, .ref (ad 1))] rfl ?_
  intro p e s m args below meth c hC hnm
  rw [vc_X0_leaveEnded] at hV
  obtain ⟨n4, hV⟩ := hV
  refine (ac_X0_leaveEnded_0 hC Post n4 g0 hV)
abbrev rm_X10_tiePlace : Room := { frames := 0, cells := 0, slots := 0, locals := 0 }
def vc_X10_tiePlace (a0 : Int32) (a1 : Int32) (a2 : Int32) (g0 : cm_M) (Post : Int32 → Prop) : Prop := ((¬ a0 = 0) → (((¬ a0 = 1) → (Post (((260 : Int32) + (a1 * 16)) + a2))) ∧ ((a0 = 1) → (Post (((100 : Int32) + (a1 * 16)) + a2))))) ∧ ((a0 = 0) → (Post ((a1 * 10) + a2)))
set_option maxHeartbeats 4000000 in
set_option maxRecDepth 100000 in
theorem kc_X10_tiePlace (l : Launch) (D : va_G) (cs : Nat → ClassId) (Y X : va_W) (ad : Nat → Nat) (a0 : Int32) (a1 : Int32) (a2 : Int32) (g0 : cm_M) (Post : Int32 → Prop) (hV : vc_X10_tiePlace a0 a1 a2 g0 Post) : JI (wc_d Y X cs ad) D vwCl (jt_tys cs) l yX10_tiePlace wsX10_tiePlace rm_X10_tiePlace 0 0 [.int a0, .int a1, .int a2] g0 (fun r g2 => Post r ∧ g2 = g0) := by
  refine jj_metI (cc := cX10_tiePlace) (nL := 3) (ret := (some .int)) (by decide) rfl (Nat.le_of_ble_eq_true rfl) [(0, .int a0), (1, .int a1), (2, .int a2)] rfl ?_
  intro p e s m args below meth c hC hnm
  rw [vc_X10_tiePlace] at hV
  refine jj_iload_n (pc2 := 1) hC dX10_tiePlace_0 rfl 0 rfl rfl ?_
  refine jj_if_ne (pc2 := 4) hC 11 dX10_tiePlace_1 (by decide) rfl (fun h1 => ?_) (fun h1 => ?_)
  · have hV := hV.1 h1
    refine jj_iload_n (pc2 := 12) hC dX10_tiePlace_11 rfl 0 rfl rfl ?_
    refine jj_iconst (pc2 := 13) hC 1 dX10_tiePlace_12 (by decide) rfl ?_
    refine jj_icmp_ne (pc2 := 16) hC 21 dX10_tiePlace_13 (by decide) rfl (fun h2 => ?_) (fun h2 => ?_)
    · have hV := hV.1 h2
      refine jj_sipush (pc2 := 24) hC 260 dX10_tiePlace_21 (by decide) rfl ?_
      refine jj_iload_n (pc2 := 25) hC dX10_tiePlace_24 rfl 1 rfl rfl ?_
      refine jj_bipush (pc2 := 27) hC 16 dX10_tiePlace_25 (by decide) rfl ?_
      refine jj_imul (pc2 := 28) hC dX10_tiePlace_27 rfl ?_
      refine jj_iadd (pc2 := 29) hC dX10_tiePlace_28 rfl ?_
      refine jj_iload_n (pc2 := 30) hC dX10_tiePlace_29 rfl 2 rfl rfl ?_
      refine jj_iadd (pc2 := 31) hC dX10_tiePlace_30 rfl ?_
      exact jj_iret hC dX10_tiePlace_31 ⟨hV, rfl⟩
    · have hV := hV.2 h2
      refine jj_bipush (pc2 := 18) hC 100 dX10_tiePlace_16 (by decide) rfl ?_
      refine jj_goto hC 24 dX10_tiePlace_18 (by decide) ?_
      refine jj_iload_n (pc2 := 25) hC dX10_tiePlace_24 rfl 1 rfl rfl ?_
      refine jj_bipush (pc2 := 27) hC 16 dX10_tiePlace_25 (by decide) rfl ?_
      refine jj_imul (pc2 := 28) hC dX10_tiePlace_27 rfl ?_
      refine jj_iadd (pc2 := 29) hC dX10_tiePlace_28 rfl ?_
      refine jj_iload_n (pc2 := 30) hC dX10_tiePlace_29 rfl 2 rfl rfl ?_
      refine jj_iadd (pc2 := 31) hC dX10_tiePlace_30 rfl ?_
      exact jj_iret hC dX10_tiePlace_31 ⟨hV, rfl⟩
  · have hV := hV.2 h1
    refine jj_iload_n (pc2 := 5) hC dX10_tiePlace_4 rfl 1 rfl rfl ?_
    refine jj_bipush (pc2 := 7) hC 10 dX10_tiePlace_5 (by decide) rfl ?_
    refine jj_imul (pc2 := 8) hC dX10_tiePlace_7 rfl ?_
    refine jj_iload_n (pc2 := 9) hC dX10_tiePlace_8 rfl 2 rfl rfl ?_
    refine jj_iadd (pc2 := 10) hC dX10_tiePlace_9 rfl ?_
    exact jj_iret hC dX10_tiePlace_10 ⟨hV, rfl⟩
theorem lk_X9_tieOfLine_5 : Cond.initialized RX10 ∈ wsX9_tieOfLine := List.mem_of_getElem? (i := 5) rfl
theorem lk_X9_tieOfLine_4 : Cond.static yX10_tiePlace ∈ wsX9_tieOfLine := List.mem_of_getElem? (i := 4) rfl
theorem hi_X9_tieOfLine_X9 : ∀ w ∈ u_ws RX9 TX9 11, w ∈ wsX9_tieOfLine := fun _ h => List.mem_cons_of_mem _ (List.mem_append_right _ h)
theorem lk_X9_tieOfLine_3 : Cond.fieldLink RX9 27 "PartedHouse$Text" "xs" "[I" ∈ wsX9_tieOfLine := List.mem_of_getElem? (i := 3) rfl
theorem lk_X9_tieOfLine_1 : Cond.fieldLink RX9 18 "PartedHouse$Text" "owners" "[I" ∈ wsX9_tieOfLine := List.mem_of_getElem? (i := 1) rfl
theorem lk_X9_tieOfLine_2 : Cond.fieldLink RX9 24 "PartedHouse$Text" "ops" "[I" ∈ wsX9_tieOfLine := List.mem_of_getElem? (i := 2) rfl
abbrev rm_X9_tieOfLine : Room := { frames := 1, cells := 0, slots := 0, locals := 22 }
def vc_X9_tieOfLine (a1 : Int32) (a2 : Int32) (g0 : cm_M) (Post : Int32 → Prop) : Prop := (vp_in a1 40) ∧ (∀ y1 : Int32, y1 = g0.2.2 6 a1.toNatClampNeg → ((vp_in a2 640) ∧ ((((g0.2.2 8 a2.toNatClampNeg).toInt < 2 ∨ 8 < (g0.2.2 8 a2.toNatClampNeg).toInt) → (Post (-1))) ∧ ((g0.2.2 8 a2.toNatClampNeg) = 2 → ((vp_in a2 640) ∧ (vc_X10_tiePlace 1 y1 (g0.2.2 9 a2.toNatClampNeg) g0 (fun (r3 : Int32) => Post r3)))) ∧ ((g0.2.2 8 a2.toNatClampNeg) = 3 → ((vp_in a2 640) ∧ (vc_X10_tiePlace 2 y1 (g0.2.2 9 a2.toNatClampNeg) g0 (fun (r4 : Int32) => Post r4)))) ∧ ((g0.2.2 8 a2.toNatClampNeg) = 4 → ((vp_in a2 640) ∧ ((vp_in (g0.2.2 9 a2.toNatClampNeg) 40) ∧ (vc_X10_tiePlace 0 y1 (g0.2.2 6 (g0.2.2 9 a2.toNatClampNeg).toNatClampNeg) g0 (fun (r5 : Int32) => Post r5))))) ∧ ((g0.2.2 8 a2.toNatClampNeg) = 5 → (Post (-1))) ∧ ((g0.2.2 8 a2.toNatClampNeg) = 6 → (Post (-1))) ∧ ((g0.2.2 8 a2.toNatClampNeg) = 7 → ((vp_in a2 640) ∧ (vc_X10_tiePlace 1 y1 (g0.2.2 9 a2.toNatClampNeg) g0 (fun (r6 : Int32) => Post r6)))) ∧ ((g0.2.2 8 a2.toNatClampNeg) = 8 → ((vp_in a2 640) ∧ (vc_X10_tiePlace 1 y1 (g0.2.2 9 a2.toNatClampNeg) g0 (fun (r7 : Int32) => Post r7)))))))
set_option maxHeartbeats 4000000 in
set_option maxRecDepth 100000 in
theorem kc_X9_tieOfLine (l : Launch) (D : va_G) (cs : Nat → ClassId) (Y X : va_W) (ad : Nat → Nat) (a1 : Int32) (a2 : Int32) (g0 : cm_M) (Post : Int32 → Prop) (hV : vc_X9_tieOfLine a1 a2 g0 Post) : JI (wc_d Y X cs ad) D vwCl (jt_tys cs) l yX9_tieOfLine wsX9_tieOfLine rm_X9_tieOfLine 0 0 [.ref (ad 1), .int a1, .int a2] g0 (fun r g2 => Post r ∧ g2 = g0) := by
  refine jj_metI (cc := cX9_tieOfLine) (nL := 4) (ret := (some .int)) (by decide) rfl (Nat.le_of_ble_eq_true rfl) [(0, .ref (ad 1)), (1, .int a1), (2, .int a2)] rfl ?_
  intro p e s m args below meth c hC hnm
  rw [vc_X9_tieOfLine] at hV
  refine jj_aload_n (pc2 := 1) hC dX9_tieOfLine_0 rfl 0 rfl rfl ?_
  refine cg_T_owners (pc2 := 4) hC hi_X9_tieOfLine_X9 lk_X9_tieOfLine_1 dX9_tieOfLine_1 rfl ?_
  refine jj_iload_n (pc2 := 5) hC dX9_tieOfLine_4 rfl 1 rfl rfl ?_
  refine cl_T_owners (pc2 := 6) hC hV.1 dX9_tieOfLine_5 rfl ?_
  have hV := hV.2
  refine jj_topi (fun y1 ey1 => ?_)
  have hV := hV y1 ey1
  refine jj_istore_n (pc2 := 7) hC [(3, .int y1), (0, .ref (ad 1)), (1, .int a1), (2, .int a2)] dX9_tieOfLine_6 rfl (by decide) rfl rfl ?_
  refine jj_aload_n (pc2 := 8) hC dX9_tieOfLine_7 rfl 1 rfl rfl ?_
  refine cg_T_ops (pc2 := 11) hC hi_X9_tieOfLine_X9 lk_X9_tieOfLine_2 dX9_tieOfLine_8 rfl ?_
  refine jj_iload_n (pc2 := 12) hC dX9_tieOfLine_11 rfl 3 rfl rfl ?_
  refine cl_T_ops (pc2 := 13) hC hV.1 dX9_tieOfLine_12 rfl ?_
  have hV := hV.2
  by_cases h2 : (g0.2.2 8 a2.toNatClampNeg).toInt < 2 ∨ 8 < (g0.2.2 8 a2.toNatClampNeg).toInt
  · have hV := hV.1 h2
    refine jj_tabOut hC 97 dX9_tieOfLine_13 h2 (by decide) ?_
    refine jj_iconst (pc2 := 98) hC (-1) dX9_tieOfLine_97 (by decide) rfl ?_
    exact jj_iret hC dX9_tieOfLine_98 ⟨hV, rfl⟩
  have hV := hV.2
  rcases jj_sw_2_8 (g0.2.2 8 a2.toNatClampNeg) h2 with hs | hs | hs | hs | hs | hs | hs
  · have hV := hV.1 hs
    refine jj_tabIn (off := 60) hC 73 dX9_tieOfLine_13 (fun q => h2 (Or.inl q)) (fun q => h2 (Or.inr q)) (by rw [hs]; decide) (by decide) ?_
    refine jj_iconst (pc2 := 74) hC 1 dX9_tieOfLine_73 (by decide) rfl ?_
    refine jj_iload_n (pc2 := 75) hC dX9_tieOfLine_74 rfl 0 rfl rfl ?_
    refine jj_aload_n (pc2 := 76) hC dX9_tieOfLine_75 rfl 1 rfl rfl ?_
    refine cg_T_xs (pc2 := 79) hC hi_X9_tieOfLine_X9 lk_X9_tieOfLine_3 dX9_tieOfLine_76 rfl ?_
    refine jj_iload_n (pc2 := 80) hC dX9_tieOfLine_79 rfl 3 rfl rfl ?_
    refine cl_T_xs (pc2 := 81) hC hV.1 dX9_tieOfLine_80 rfl ?_
    have hV := hV.2
    refine jj_cSIpN (pc2 := 84) (wd := wc_d Y X cs ad) (g := g0) (rest := []) hC (kc_X10_tiePlace l D cs Y X ad 1 y1 (g0.2.2 9 a2.toNatClampNeg) g0 _ hV) ⟨va_cnB (host := "PartedHouse") 3 hC.1.2.2.2.2 gX9_tieOfLine_X10_tiePlace_n68 rfl rfl rfl (hC.2.1.2.1 _ (List.mem_of_getElem? (i := 8) rfl)) (hC.1.2.2.2.2 _ lk_X9_tieOfLine_5) (by decide +kernel) ⟨by decide, by decide⟩, hC.1.2.2.2.2 _ lk_X9_tieOfLine_4, trivial⟩ rfl (Nat.le_of_ble_eq_true rfl) _ rfl dX9_tieOfLine_81 ⟨Nat.zero_le _, Nat.zero_le _⟩ rfl (fun r3 hV => ?_)
    exact jj_iret hC dX9_tieOfLine_84 ⟨hV, rfl⟩
  · have hV := hV.2.1 hs
    refine jj_tabIn (off := 72) hC 85 dX9_tieOfLine_13 (fun q => h2 (Or.inl q)) (fun q => h2 (Or.inr q)) (by rw [hs]; decide) (by decide) ?_
    refine jj_iconst (pc2 := 86) hC 2 dX9_tieOfLine_85 (by decide) rfl ?_
    refine jj_iload_n (pc2 := 87) hC dX9_tieOfLine_86 rfl 0 rfl rfl ?_
    refine jj_aload_n (pc2 := 88) hC dX9_tieOfLine_87 rfl 1 rfl rfl ?_
    refine cg_T_xs (pc2 := 91) hC hi_X9_tieOfLine_X9 lk_X9_tieOfLine_3 dX9_tieOfLine_88 rfl ?_
    refine jj_iload_n (pc2 := 92) hC dX9_tieOfLine_91 rfl 3 rfl rfl ?_
    refine cl_T_xs (pc2 := 93) hC hV.1 dX9_tieOfLine_92 rfl ?_
    have hV := hV.2
    refine jj_cSIpN (pc2 := 96) (wd := wc_d Y X cs ad) (g := g0) (rest := []) hC (kc_X10_tiePlace l D cs Y X ad 2 y1 (g0.2.2 9 a2.toNatClampNeg) g0 _ hV) ⟨va_cnB (host := "PartedHouse") 3 hC.1.2.2.2.2 gX9_tieOfLine_X10_tiePlace_n68 rfl rfl rfl (hC.2.1.2.1 _ (List.mem_of_getElem? (i := 8) rfl)) (hC.1.2.2.2.2 _ lk_X9_tieOfLine_5) (by decide +kernel) ⟨by decide, by decide⟩, hC.1.2.2.2.2 _ lk_X9_tieOfLine_4, trivial⟩ rfl (Nat.le_of_ble_eq_true rfl) _ rfl dX9_tieOfLine_93 ⟨Nat.zero_le _, Nat.zero_le _⟩ rfl (fun r4 hV => ?_)
    exact jj_iret hC dX9_tieOfLine_96 ⟨hV, rfl⟩
  · have hV := hV.2.2.1 hs
    refine jj_tabIn (off := 43) hC 56 dX9_tieOfLine_13 (fun q => h2 (Or.inl q)) (fun q => h2 (Or.inr q)) (by rw [hs]; decide) (by decide) ?_
    refine jj_iconst (pc2 := 57) hC 0 dX9_tieOfLine_56 (by decide) rfl ?_
    refine jj_iload_n (pc2 := 58) hC dX9_tieOfLine_57 rfl 0 rfl rfl ?_
    refine jj_aload_n (pc2 := 59) hC dX9_tieOfLine_58 rfl 1 rfl rfl ?_
    refine cg_T_owners (pc2 := 62) hC hi_X9_tieOfLine_X9 lk_X9_tieOfLine_1 dX9_tieOfLine_59 rfl ?_
    refine jj_aload_n (pc2 := 63) hC dX9_tieOfLine_62 rfl 1 rfl rfl ?_
    refine cg_T_xs (pc2 := 66) hC hi_X9_tieOfLine_X9 lk_X9_tieOfLine_3 dX9_tieOfLine_63 rfl ?_
    refine jj_iload_n (pc2 := 67) hC dX9_tieOfLine_66 rfl 3 rfl rfl ?_
    refine cl_T_xs (pc2 := 68) hC hV.1 dX9_tieOfLine_67 rfl ?_
    have hV := hV.2
    refine cl_T_owners (pc2 := 69) hC hV.1 dX9_tieOfLine_68 rfl ?_
    have hV := hV.2
    refine jj_cSIpN (pc2 := 72) (wd := wc_d Y X cs ad) (g := g0) (rest := []) hC (kc_X10_tiePlace l D cs Y X ad 0 y1 (g0.2.2 6 (g0.2.2 9 a2.toNatClampNeg).toNatClampNeg) g0 _ hV) ⟨va_cnB (host := "PartedHouse") 3 hC.1.2.2.2.2 gX9_tieOfLine_X10_tiePlace_n68 rfl rfl rfl (hC.2.1.2.1 _ (List.mem_of_getElem? (i := 8) rfl)) (hC.1.2.2.2.2 _ lk_X9_tieOfLine_5) (by decide +kernel) ⟨by decide, by decide⟩, hC.1.2.2.2.2 _ lk_X9_tieOfLine_4, trivial⟩ rfl (Nat.le_of_ble_eq_true rfl) _ rfl dX9_tieOfLine_69 ⟨Nat.zero_le _, Nat.zero_le _⟩ rfl (fun r5 hV => ?_)
    exact jj_iret hC dX9_tieOfLine_72 ⟨hV, rfl⟩
  · have hV := hV.2.2.2.1 hs
    refine jj_tabIn (off := 84) hC 97 dX9_tieOfLine_13 (fun q => h2 (Or.inl q)) (fun q => h2 (Or.inr q)) (by rw [hs]; decide) (by decide) ?_
    refine jj_iconst (pc2 := 98) hC (-1) dX9_tieOfLine_97 (by decide) rfl ?_
    exact jj_iret hC dX9_tieOfLine_98 ⟨hV, rfl⟩
  · have hV := hV.2.2.2.2.1 hs
    refine jj_tabIn (off := 84) hC 97 dX9_tieOfLine_13 (fun q => h2 (Or.inl q)) (fun q => h2 (Or.inr q)) (by rw [hs]; decide) (by decide) ?_
    refine jj_iconst (pc2 := 98) hC (-1) dX9_tieOfLine_97 (by decide) rfl ?_
    exact jj_iret hC dX9_tieOfLine_98 ⟨hV, rfl⟩
  · have hV := hV.2.2.2.2.2.1 hs
    refine jj_tabIn (off := 60) hC 73 dX9_tieOfLine_13 (fun q => h2 (Or.inl q)) (fun q => h2 (Or.inr q)) (by rw [hs]; decide) (by decide) ?_
    refine jj_iconst (pc2 := 74) hC 1 dX9_tieOfLine_73 (by decide) rfl ?_
    refine jj_iload_n (pc2 := 75) hC dX9_tieOfLine_74 rfl 0 rfl rfl ?_
    refine jj_aload_n (pc2 := 76) hC dX9_tieOfLine_75 rfl 1 rfl rfl ?_
    refine cg_T_xs (pc2 := 79) hC hi_X9_tieOfLine_X9 lk_X9_tieOfLine_3 dX9_tieOfLine_76 rfl ?_
    refine jj_iload_n (pc2 := 80) hC dX9_tieOfLine_79 rfl 3 rfl rfl ?_
    refine cl_T_xs (pc2 := 81) hC hV.1 dX9_tieOfLine_80 rfl ?_
    have hV := hV.2
    refine jj_cSIpN (pc2 := 84) (wd := wc_d Y X cs ad) (g := g0) (rest := []) hC (kc_X10_tiePlace l D cs Y X ad 1 y1 (g0.2.2 9 a2.toNatClampNeg) g0 _ hV) ⟨va_cnB (host := "PartedHouse") 3 hC.1.2.2.2.2 gX9_tieOfLine_X10_tiePlace_n68 rfl rfl rfl (hC.2.1.2.1 _ (List.mem_of_getElem? (i := 8) rfl)) (hC.1.2.2.2.2 _ lk_X9_tieOfLine_5) (by decide +kernel) ⟨by decide, by decide⟩, hC.1.2.2.2.2 _ lk_X9_tieOfLine_4, trivial⟩ rfl (Nat.le_of_ble_eq_true rfl) _ rfl dX9_tieOfLine_81 ⟨Nat.zero_le _, Nat.zero_le _⟩ rfl (fun r6 hV => ?_)
    exact jj_iret hC dX9_tieOfLine_84 ⟨hV, rfl⟩
  · have hV := hV.2.2.2.2.2.2 hs
    refine jj_tabIn (off := 60) hC 73 dX9_tieOfLine_13 (fun q => h2 (Or.inl q)) (fun q => h2 (Or.inr q)) (by rw [hs]; decide) (by decide) ?_
    refine jj_iconst (pc2 := 74) hC 1 dX9_tieOfLine_73 (by decide) rfl ?_
    refine jj_iload_n (pc2 := 75) hC dX9_tieOfLine_74 rfl 0 rfl rfl ?_
    refine jj_aload_n (pc2 := 76) hC dX9_tieOfLine_75 rfl 1 rfl rfl ?_
    refine cg_T_xs (pc2 := 79) hC hi_X9_tieOfLine_X9 lk_X9_tieOfLine_3 dX9_tieOfLine_76 rfl ?_
    refine jj_iload_n (pc2 := 80) hC dX9_tieOfLine_79 rfl 3 rfl rfl ?_
    refine cl_T_xs (pc2 := 81) hC hV.1 dX9_tieOfLine_80 rfl ?_
    have hV := hV.2
    refine jj_cSIpN (pc2 := 84) (wd := wc_d Y X cs ad) (g := g0) (rest := []) hC (kc_X10_tiePlace l D cs Y X ad 1 y1 (g0.2.2 9 a2.toNatClampNeg) g0 _ hV) ⟨va_cnB (host := "PartedHouse") 3 hC.1.2.2.2.2 gX9_tieOfLine_X10_tiePlace_n68 rfl rfl rfl (hC.2.1.2.1 _ (List.mem_of_getElem? (i := 8) rfl)) (hC.1.2.2.2.2 _ lk_X9_tieOfLine_5) (by decide +kernel) ⟨by decide, by decide⟩, hC.1.2.2.2.2 _ lk_X9_tieOfLine_4, trivial⟩ rfl (Nat.le_of_ble_eq_true rfl) _ rfl dX9_tieOfLine_81 ⟨Nat.zero_le _, Nat.zero_le _⟩ rfl (fun r7 hV => ?_)
    exact jj_iret hC dX9_tieOfLine_84 ⟨hV, rfl⟩
theorem hi_X0_noteTie_X0 : ∀ w ∈ u_ws RX0 TX0 10, w ∈ wsX0_noteTie := fun _ h => List.mem_cons_of_mem _ (List.mem_append_right _ h)
theorem lk_X0_noteTie_1 : Cond.fieldLink RX0 60 "PartedHouse$Act" "tieCount" "I" ∈ wsX0_noteTie := List.mem_of_getElem? (i := 1) rfl
theorem lk_X0_noteTie_2 : Cond.fieldLink RX0 22 "PartedHouse$Act" "ties" "[I" ∈ wsX0_noteTie := List.mem_of_getElem? (i := 2) rfl
abbrev rm_X0_noteTie : Room := { frames := 0, cells := 0, slots := 0, locals := 0 }
def vc_X0_noteTie (a1 : Int32) (g0 : cm_M) (Post : cm_M → Prop) : Prop := ((a1 = (-1)) → (Post g0)) ∧ ((¬ a1 = (-1)) → (((300 ≤ (g0.2.2 22 0)) → (Post g0)) ∧ ((¬ 300 ≤ (g0.2.2 22 0)) → ((vp_in (g0.2.2 22 0) 300) ∧ (∀ g3 : cm_M, g3 = cm_a g0 18 (g0.2.2 22 0) a1 → (∀ g4 : cm_M, g4 = cm_s g3 22 ((g3.2.2 22 0) + 1) → (Post g4)))))))
set_option maxHeartbeats 4000000 in
set_option maxRecDepth 100000 in
theorem kc_X0_noteTie (l : Launch) (D : va_G) (cs : Nat → ClassId) (Y X : va_W) (ad : Nat → Nat) (a1 : Int32) (g0 : cm_M) (Post : cm_M → Prop) (hV : vc_X0_noteTie a1 g0 Post) : JV (wc_d Y X cs ad) D vwCl (jt_tys cs) l yX0_noteTie wsX0_noteTie rm_X0_noteTie 0 0 [.ref (ad 2), .int a1] g0 Post := by
  refine jj_metV (cc := cX0_noteTie) (nL := 2) (ret := none) (by decide) rfl (Nat.le_of_ble_eq_true rfl) [(0, .ref (ad 2)), (1, .int a1)] rfl ?_
  intro p e s m args below meth c hC hnm
  rw [vc_X0_noteTie] at hV
  refine jj_iload_n (pc2 := 1) hC dX0_noteTie_0 rfl 1 rfl rfl ?_
  refine jj_iconst (pc2 := 2) hC (-1) dX0_noteTie_1 (by decide) rfl ?_
  refine jj_icmp_eq (pc2 := 5) hC 35 dX0_noteTie_2 (by decide) rfl (fun h1 => ?_) (fun h1 => ?_)
  · have hV := hV.1 h1
    exact jj_vret hC dX0_noteTie_35 hV
  · have hV := hV.2 h1
    refine jj_aload_n (pc2 := 6) hC dX0_noteTie_5 rfl 0 rfl rfl ?_
    refine cg_A_tieCount (pc2 := 9) hC hi_X0_noteTie_X0 lk_X0_noteTie_1 dX0_noteTie_6 rfl ?_
    refine jj_sipush (pc2 := 12) hC 300 dX0_noteTie_9 (by decide) rfl ?_
    refine jj_icmp_ge (pc2 := 15) hC 35 dX0_noteTie_12 (by decide) rfl (fun h2 => ?_) (fun h2 => ?_)
    · have hV := hV.1 h2
      exact jj_vret hC dX0_noteTie_35 hV
    · have hV := hV.2 h2
      refine jj_aload_n (pc2 := 16) hC dX0_noteTie_15 rfl 0 rfl rfl ?_
      refine cg_A_ties (pc2 := 19) hC hi_X0_noteTie_X0 lk_X0_noteTie_2 dX0_noteTie_16 rfl ?_
      refine jj_aload_n (pc2 := 20) hC dX0_noteTie_19 rfl 0 rfl rfl ?_
      refine cg_A_tieCount (pc2 := 23) hC hi_X0_noteTie_X0 lk_X0_noteTie_1 dX0_noteTie_20 rfl ?_
      refine jj_iload_n (pc2 := 24) hC dX0_noteTie_23 rfl 1 rfl rfl ?_
      refine ct_A_ties (pc2 := 25) hC hV.1 dX0_noteTie_24 rfl (fun g3 eg3 => ?_)
      have hV := hV.2 g3 eg3
      refine jj_aload_n (pc2 := 26) hC dX0_noteTie_25 rfl 0 rfl rfl ?_
      refine jj_dup (pc2 := 27) hC dX0_noteTie_26 rfl rfl ?_
      refine cg_A_tieCount (pc2 := 30) hC hi_X0_noteTie_X0 lk_X0_noteTie_1 dX0_noteTie_27 rfl ?_
      refine jj_iconst (pc2 := 31) hC 1 dX0_noteTie_30 (by decide) rfl ?_
      refine jj_iadd (pc2 := 32) hC dX0_noteTie_31 rfl ?_
      refine cp_A_tieCount (pc2 := 35) hC hi_X0_noteTie_X0 lk_X0_noteTie_1 dX0_noteTie_32 rfl (fun g4 eg4 => ?_)
      have hV := hV g4 eg4
      exact jj_vret hC dX0_noteTie_35 hV
theorem hi_X0_write_X0 : ∀ w ∈ u_ws RX0 TX0 10, w ∈ wsX0_write := fun _ h => List.mem_cons_of_mem _ (List.mem_append_right _ h)
theorem lk_X0_write_5 : Cond.fieldLink RX0 57 "PartedHouse$Act" "writtenCount" "I" ∈ wsX0_write := List.mem_of_getElem? (i := 5) rfl
theorem lk_X0_write_4 : Cond.fieldLink RX0 19 "PartedHouse$Act" "written" "[I" ∈ wsX0_write := List.mem_of_getElem? (i := 4) rfl
theorem lk_X0_write_3 : Cond.fieldLink RX0 15 "PartedHouse$Act" "isWritten" "[Z" ∈ wsX0_write := List.mem_of_getElem? (i := 3) rfl
theorem lk_X0_write_2 : Cond.fieldLink RX0 63 "PartedHouse$Act" "value" "I" ∈ wsX0_write := List.mem_of_getElem? (i := 2) rfl
theorem lk_X0_write_1 : Cond.fieldLink RX0 9 "PartedHouse$Act" "cells" "[I" ∈ wsX0_write := List.mem_of_getElem? (i := 1) rfl
abbrev rm_X0_write : Room := { frames := 0, cells := 0, slots := 0, locals := 0 }
def vc_X0_write (a1 : Int32) (g0 : cm_M) (Post : cm_M → Prop) : Prop := (vp_in a1 128) ∧ (∀ g1 : cm_M, g1 = cm_a g0 15 a1 (g0.2.2 24 0) → ((vp_in a1 128) ∧ (((¬ (g1.2.2 16 a1.toNatClampNeg) = 0) → (Post g1)) ∧ (((g1.2.2 16 a1.toNatClampNeg) = 0) → ((vp_in a1 128) ∧ (∀ g3 : cm_M, g3 = cm_a g1 16 a1 1 → ((vp_in (g3.2.2 21 0) 128) ∧ (∀ g4 : cm_M, g4 = cm_a g3 17 (g3.2.2 21 0) a1 → (∀ g5 : cm_M, g5 = cm_s g4 21 ((g4.2.2 21 0) + 1) → (Post g5))))))))))
set_option maxHeartbeats 4000000 in
set_option maxRecDepth 100000 in
theorem kc_X0_write (l : Launch) (D : va_G) (cs : Nat → ClassId) (Y X : va_W) (ad : Nat → Nat) (a1 : Int32) (g0 : cm_M) (Post : cm_M → Prop) (hV : vc_X0_write a1 g0 Post) : JV (wc_d Y X cs ad) D vwCl (jt_tys cs) l yX0_write wsX0_write rm_X0_write 0 0 [.ref (ad 2), .int a1] g0 Post := by
  refine jj_metV (cc := cX0_write) (nL := 2) (ret := none) (by decide) rfl (Nat.le_of_ble_eq_true rfl) [(0, .ref (ad 2)), (1, .int a1)] rfl ?_
  intro p e s m args below meth c hC hnm
  rw [vc_X0_write] at hV
  refine jj_aload_n (pc2 := 1) hC dX0_write_0 rfl 0 rfl rfl ?_
  refine cg_A_cells (pc2 := 4) hC hi_X0_write_X0 lk_X0_write_1 dX0_write_1 rfl ?_
  refine jj_iload_n (pc2 := 5) hC dX0_write_4 rfl 1 rfl rfl ?_
  refine jj_aload_n (pc2 := 6) hC dX0_write_5 rfl 0 rfl rfl ?_
  refine cg_A_value (pc2 := 9) hC hi_X0_write_X0 lk_X0_write_2 dX0_write_6 rfl ?_
  refine ct_A_cells (pc2 := 10) hC hV.1 dX0_write_9 rfl (fun g1 eg1 => ?_)
  have hV := hV.2 g1 eg1
  refine jj_aload_n (pc2 := 11) hC dX0_write_10 rfl 0 rfl rfl ?_
  refine cg_A_isWritten (pc2 := 14) hC hi_X0_write_X0 lk_X0_write_3 dX0_write_11 rfl ?_
  refine jj_iload_n (pc2 := 15) hC dX0_write_14 rfl 1 rfl rfl ?_
  refine cl_A_isWritten (pc2 := 16) hC hV.1 dX0_write_15 rfl ?_
  have hV := hV.2
  refine jj_if_ne (pc2 := 19) hC 46 dX0_write_16 (by decide) rfl (fun h2 => ?_) (fun h2 => ?_)
  · have hV := hV.1 h2
    exact jj_vret hC dX0_write_46 hV
  · have hV := hV.2 h2
    refine jj_aload_n (pc2 := 20) hC dX0_write_19 rfl 0 rfl rfl ?_
    refine cg_A_isWritten (pc2 := 23) hC hi_X0_write_X0 lk_X0_write_3 dX0_write_20 rfl ?_
    refine jj_iload_n (pc2 := 24) hC dX0_write_23 rfl 1 rfl rfl ?_
    refine jj_iconst (pc2 := 25) hC 1 dX0_write_24 (by decide) rfl ?_
    refine ct_A_isWritten (pc2 := 26) hC hV.1 jj_nb1 dX0_write_25 rfl (fun g3 eg3 => ?_)
    have hV := hV.2 g3 eg3
    refine jj_aload_n (pc2 := 27) hC dX0_write_26 rfl 0 rfl rfl ?_
    refine cg_A_written (pc2 := 30) hC hi_X0_write_X0 lk_X0_write_4 dX0_write_27 rfl ?_
    refine jj_aload_n (pc2 := 31) hC dX0_write_30 rfl 0 rfl rfl ?_
    refine cg_A_writtenCount (pc2 := 34) hC hi_X0_write_X0 lk_X0_write_5 dX0_write_31 rfl ?_
    refine jj_iload_n (pc2 := 35) hC dX0_write_34 rfl 1 rfl rfl ?_
    refine ct_A_written (pc2 := 36) hC hV.1 dX0_write_35 rfl (fun g4 eg4 => ?_)
    have hV := hV.2 g4 eg4
    refine jj_aload_n (pc2 := 37) hC dX0_write_36 rfl 0 rfl rfl ?_
    refine jj_dup (pc2 := 38) hC dX0_write_37 rfl rfl ?_
    refine cg_A_writtenCount (pc2 := 41) hC hi_X0_write_X0 lk_X0_write_5 dX0_write_38 rfl ?_
    refine jj_iconst (pc2 := 42) hC 1 dX0_write_41 (by decide) rfl ?_
    refine jj_iadd (pc2 := 43) hC dX0_write_42 rfl ?_
    refine cp_A_writtenCount (pc2 := 46) hC hi_X0_write_X0 lk_X0_write_5 dX0_write_43 rfl (fun g5 eg5 => ?_)
    have hV := hV g5 eg5
    exact jj_vret hC dX0_write_46 hV
theorem hi_X0_doNextLine_X0 : ∀ w ∈ u_ws RX0 TX0 10, w ∈ wsX0_doNextLine := fun _ h => List.mem_cons_of_mem _ (List.mem_append_left _ (List.mem_append_right _ h))
theorem lk_X0_doNextLine_7 : Cond.fieldLink RX0 63 "PartedHouse$Act" "value" "I" ∈ wsX0_doNextLine := List.mem_of_getElem? (i := 7) rfl
theorem lk_X0_doNextLine_8 : Cond.fieldLink RX0 9 "PartedHouse$Act" "cells" "[I" ∈ wsX0_doNextLine := List.mem_of_getElem? (i := 8) rfl
theorem lk_X0_doNextLine_3 : Cond.fieldLink RX0 28 "PartedHouse$Act" "nextLines" "[I" ∈ wsX0_doNextLine := List.mem_of_getElem? (i := 3) rfl
theorem hi_X0_doNextLine_X9 : ∀ w ∈ u_ws RX9 TX9 11, w ∈ wsX0_doNextLine := fun _ h => List.mem_cons_of_mem _ (List.mem_append_right _ h)
theorem lk_X0_doNextLine_6 : Cond.fieldLink RX0 85 "PartedHouse$Text" "ops" "[I" ∈ wsX0_doNextLine := List.mem_of_getElem? (i := 6) rfl
theorem lk_X0_doNextLine_5 : Cond.fieldLink RX0 82 "PartedHouse$Text" "ys" "[I" ∈ wsX0_doNextLine := List.mem_of_getElem? (i := 5) rfl
theorem lk_X0_doNextLine_4 : Cond.fieldLink RX0 79 "PartedHouse$Text" "xs" "[I" ∈ wsX0_doNextLine := List.mem_of_getElem? (i := 4) rfl
theorem lk_X0_doNextLine_2 : Cond.fieldLink RX0 25 "PartedHouse$Act" "openRoutines" "[I" ∈ wsX0_doNextLine := List.mem_of_getElem? (i := 2) rfl
theorem lk_X0_doNextLine_1 : Cond.fieldLink RX0 43 "PartedHouse$Act" "open" "I" ∈ wsX0_doNextLine := List.mem_of_getElem? (i := 1) rfl
abbrev rm_X0_doNextLine : Room := { frames := 2, cells := 0, slots := 0, locals := 45 }
def vc_X0_doNextLine (g0 : cm_M) (Post : Int32 → cm_M → Prop) : Prop := ∀ y1 : Int32, y1 = (g0.2.2 23 0) - 1 → ((vp_in y1 8) ∧ (∀ y2 : Int32, y2 = g0.2.2 19 y1.toNatClampNeg → ((vp_in y1 8) ∧ (∀ y3 : Int32, y3 = (y2 * 16) + (g0.2.2 20 y1.toNatClampNeg) → ((vp_in y1 8) ∧ ((vp_in y1 8) ∧ (∀ g4 : cm_M, g4 = cm_a g0 20 y1 ((g0.2.2 20 y1.toNatClampNeg) + 1) → (vc_X9_tieOfLine y2 y3 g4 (fun (r5 : Int32) => vc_X0_noteTie r5 g4 (fun (g7 : cm_M) => (vp_in y3 640) ∧ (∀ y8 : Int32, y8 = g7.2.2 9 y3.toNatClampNeg → ((vp_in y3 640) ∧ (∀ y9 : Int32, y9 = (y8 * 8) + (g7.2.2 10 y3.toNatClampNeg) → ((vp_in y3 640) ∧ ((((g7.2.2 8 y3.toNatClampNeg).toInt < 0 ∨ 8 < (g7.2.2 8 y3.toNatClampNeg).toInt) → (Post 1 g7)) ∧ ((g7.2.2 8 y3.toNatClampNeg) = 0 → (∀ g11 : cm_M, g11 = cm_s g7 24 y8 → (Post 1 g11))) ∧ ((g7.2.2 8 y3.toNatClampNeg) = 1 → (∀ g12 : cm_M, g12 = cm_s g7 24 ((g7.2.2 24 0) + y8) → (Post 1 g12))) ∧ ((g7.2.2 8 y3.toNatClampNeg) = 2 → ((vp_in y9 128) ∧ (∀ g13 : cm_M, g13 = cm_s g7 24 (g7.2.2 15 y9.toNatClampNeg) → (Post 1 g13)))) ∧ ((g7.2.2 8 y3.toNatClampNeg) = 3 → (vc_X0_write y9 g7 (fun (g15 : cm_M) => Post 1 g15))) ∧ ((g7.2.2 8 y3.toNatClampNeg) = 4 → (vc_X0_enter y8 g7 (fun (r16 : Int32) (g17 : cm_M) => (jj_nb r16) ∧ (Post r16 g17)))) ∧ ((g7.2.2 8 y3.toNatClampNeg) = 5 → (((¬ (g7.2.2 24 0) = 0) → (Post 1 g7)) ∧ (((g7.2.2 24 0) = 0) → ((vp_in y1 8) ∧ ((vp_in y1 8) ∧ (∀ g19 : cm_M, g19 = cm_a g7 20 y1 ((g7.2.2 20 y1.toNatClampNeg) + y8) → (Post 1 g19))))))) ∧ ((g7.2.2 8 y3.toNatClampNeg) = 6 → ((((g7.2.2 24 0) < 0) → (Post 0 g7)) ∧ ((¬ (g7.2.2 24 0) < 0) → (Post 1 g7)))) ∧ ((g7.2.2 8 y3.toNatClampNeg) = 7 → ((vp_in y9 128) ∧ (∀ g21 : cm_M, g21 = cm_s g7 24 ((g7.2.2 24 0) + (g7.2.2 15 y9.toNatClampNeg)) → (Post 1 g21)))) ∧ ((g7.2.2 8 y3.toNatClampNeg) = 8 → ((vp_in y9 128) ∧ (∀ g22 : cm_M, g22 = cm_s g7 24 ((g7.2.2 24 0) - (g7.2.2 15 y9.toNatClampNeg)) → (Post 1 g22)))))))))))))))))))
set_option maxHeartbeats 4000000 in
set_option maxRecDepth 100000 in
theorem kc_X0_doNextLine (l : Launch) (D : va_G) (cs : Nat → ClassId) (Y X : va_W) (ad : Nat → Nat) (g0 : cm_M) (Post : Int32 → cm_M → Prop) (hV : vc_X0_doNextLine g0 Post) : JI (wc_d Y X cs ad) D vwCl (jt_tys cs) l yX0_doNextLine wsX0_doNextLine rm_X0_doNextLine 0 0 [.ref (ad 2), .ref (ad 1)] g0 Post := by
  refine jj_metI (cc := cX0_doNextLine) (nL := 7) (ret := (some .boolean)) (by decide) rfl (Nat.le_of_ble_eq_true rfl) [(0, .ref (ad 2)), (1, .ref (ad 1))] rfl ?_
  intro p e s m args below meth c hC hnm
  rw [vc_X0_doNextLine] at hV
  refine jj_aload_n (pc2 := 1) hC dX0_doNextLine_0 rfl 0 rfl rfl ?_
  refine cg_A_open (pc2 := 4) hC hi_X0_doNextLine_X0 lk_X0_doNextLine_1 dX0_doNextLine_1 rfl ?_
  refine jj_iconst (pc2 := 5) hC 1 dX0_doNextLine_4 (by decide) rfl ?_
  refine jj_isub (pc2 := 6) hC dX0_doNextLine_5 rfl ?_
  refine jj_topi (fun y1 ey1 => ?_)
  have hV := hV y1 ey1
  refine jj_istore_n (pc2 := 7) hC [(2, .int y1), (0, .ref (ad 2)), (1, .ref (ad 1))] dX0_doNextLine_6 rfl (by decide) rfl rfl ?_
  refine jj_aload_n (pc2 := 8) hC dX0_doNextLine_7 rfl 1 rfl rfl ?_
  refine cg_A_openRoutines (pc2 := 11) hC hi_X0_doNextLine_X0 lk_X0_doNextLine_2 dX0_doNextLine_8 rfl ?_
  refine jj_iload_n (pc2 := 12) hC dX0_doNextLine_11 rfl 0 rfl rfl ?_
  refine cl_A_openRoutines (pc2 := 13) hC hV.1 dX0_doNextLine_12 rfl ?_
  have hV := hV.2
  refine jj_topi (fun y2 ey2 => ?_)
  have hV := hV y2 ey2
  refine jj_istore_n (pc2 := 14) hC [(3, .int y2), (2, .int y1), (0, .ref (ad 2)), (1, .ref (ad 1))] dX0_doNextLine_13 rfl (by decide) rfl rfl ?_
  refine jj_iload_n (pc2 := 15) hC dX0_doNextLine_14 rfl 0 rfl rfl ?_
  refine jj_bipush (pc2 := 17) hC 16 dX0_doNextLine_15 (by decide) rfl ?_
  refine jj_imul (pc2 := 18) hC dX0_doNextLine_17 rfl ?_
  refine jj_aload_n (pc2 := 19) hC dX0_doNextLine_18 rfl 2 rfl rfl ?_
  refine cg_A_nextLines (pc2 := 22) hC hi_X0_doNextLine_X0 lk_X0_doNextLine_3 dX0_doNextLine_19 rfl ?_
  refine jj_iload_n (pc2 := 23) hC dX0_doNextLine_22 rfl 1 rfl rfl ?_
  refine cl_A_nextLines (pc2 := 24) hC hV.1 dX0_doNextLine_23 rfl ?_
  have hV := hV.2
  refine jj_iadd (pc2 := 25) hC dX0_doNextLine_24 rfl ?_
  refine jj_topi (fun y3 ey3 => ?_)
  have hV := hV y3 ey3
  refine jj_istore (pc2 := 27) hC [(4, .int y3), (3, .int y2), (2, .int y1), (0, .ref (ad 2)), (1, .ref (ad 1))] dX0_doNextLine_25 (by decide) rfl rfl ?_
  refine jj_aload_n (pc2 := 28) hC dX0_doNextLine_27 rfl 3 rfl rfl ?_
  refine cg_A_nextLines (pc2 := 31) hC hi_X0_doNextLine_X0 lk_X0_doNextLine_3 dX0_doNextLine_28 rfl ?_
  refine jj_iload_n (pc2 := 32) hC dX0_doNextLine_31 rfl 2 rfl rfl ?_
  refine jj_dup2 (pc2 := 33) hC dX0_doNextLine_32 rfl rfl rfl ?_
  refine cl_A_nextLines (pc2 := 34) hC hV.1 dX0_doNextLine_33 rfl ?_
  have hV := hV.2
  refine jj_iconst (pc2 := 35) hC 1 dX0_doNextLine_34 (by decide) rfl ?_
  refine jj_iadd (pc2 := 36) hC dX0_doNextLine_35 rfl ?_
  refine ct_A_nextLines (pc2 := 37) hC hV.1 dX0_doNextLine_36 rfl (fun g4 eg4 => ?_)
  have hV := hV.2 g4 eg4
  refine jj_aload_n (pc2 := 38) hC dX0_doNextLine_37 rfl 3 rfl rfl ?_
  refine jj_aload_n (pc2 := 39) hC dX0_doNextLine_38 rfl 4 rfl rfl ?_
  refine jj_iload_n (pc2 := 40) hC dX0_doNextLine_39 rfl 1 rfl rfl ?_
  refine jj_iload (pc2 := 42) hC dX0_doNextLine_40 0 rfl rfl ?_
  refine jj_cVIp (pc2 := 45) (wd := wc_d Y X cs ad) (g := g4) (rest := [.ref (ad 2)]) hC (Y.length + 1) (jx_at (V := wc_W cs ad g4) rfl) rfl rfl (kc_X9_tieOfLine l D cs Y X ad y2 y3 g4 _ hV) (cwV 2 hC.1.2.2.2.2 gX0_doNextLine_X9_tieOfLine rfl rfl rfl (by decide +kernel) ⟨by decide, by decide⟩) rfl (Nat.le_of_ble_eq_true rfl) _ rfl dX0_doNextLine_42 ⟨Nat.zero_le _, Nat.zero_le _⟩ rfl (fun r5 hV => ?_)
  refine jj_cVV (pc2 := 48) (wd := wc_d Y X cs ad) (g := g4) (rest := []) hC (Y.length + 2) (jx_at (V := wc_W cs ad g4) rfl) rfl rfl (kc_X0_noteTie l D cs Y X ad r5 g4 _ hV) (cwV 1 hC.1.2.2.2.2 gX0_doNextLine_X0_noteTie rfl rfl rfl (by decide +kernel) ⟨by decide, by decide⟩) rfl (Nat.le_of_ble_eq_true rfl) _ rfl dX0_doNextLine_45 ⟨Nat.zero_le _, Nat.zero_le _⟩ rfl (fun g7 hV => ?_)
  refine jj_aload_n (pc2 := 49) hC dX0_doNextLine_48 rfl 4 rfl rfl ?_
  refine cg_T_xs (pc2 := 52) hC hi_X0_doNextLine_X9 lk_X0_doNextLine_4 dX0_doNextLine_49 rfl ?_
  refine jj_iload (pc2 := 54) hC dX0_doNextLine_52 0 rfl rfl ?_
  refine cl_T_xs (pc2 := 55) hC hV.1 dX0_doNextLine_54 rfl ?_
  have hV := hV.2
  refine jj_topi (fun y8 ey8 => ?_)
  have hV := hV y8 ey8
  refine jj_istore (pc2 := 57) hC [(5, .int y8), (4, .int y3), (3, .int y2), (2, .int y1), (0, .ref (ad 2)), (1, .ref (ad 1))] dX0_doNextLine_55 (by decide) rfl rfl ?_
  refine jj_iload (pc2 := 59) hC dX0_doNextLine_57 0 rfl rfl ?_
  refine jj_bipush (pc2 := 61) hC 8 dX0_doNextLine_59 (by decide) rfl ?_
  refine jj_imul (pc2 := 62) hC dX0_doNextLine_61 rfl ?_
  refine jj_aload_n (pc2 := 63) hC dX0_doNextLine_62 rfl 5 rfl rfl ?_
  refine cg_T_ys (pc2 := 66) hC hi_X0_doNextLine_X9 lk_X0_doNextLine_5 dX0_doNextLine_63 rfl ?_
  refine jj_iload (pc2 := 68) hC dX0_doNextLine_66 1 rfl rfl ?_
  refine cl_T_ys (pc2 := 69) hC hV.1 dX0_doNextLine_68 rfl ?_
  have hV := hV.2
  refine jj_iadd (pc2 := 70) hC dX0_doNextLine_69 rfl ?_
  refine jj_topi (fun y9 ey9 => ?_)
  have hV := hV y9 ey9
  refine jj_istore (pc2 := 72) hC [(6, .int y9), (5, .int y8), (4, .int y3), (3, .int y2), (2, .int y1), (0, .ref (ad 2)), (1, .ref (ad 1))] dX0_doNextLine_70 (by decide) rfl rfl ?_
  refine jj_aload_n (pc2 := 73) hC dX0_doNextLine_72 rfl 6 rfl rfl ?_
  refine cg_T_ops (pc2 := 76) hC hi_X0_doNextLine_X9 lk_X0_doNextLine_6 dX0_doNextLine_73 rfl ?_
  refine jj_iload (pc2 := 78) hC dX0_doNextLine_76 2 rfl rfl ?_
  refine cl_T_ops (pc2 := 79) hC hV.1 dX0_doNextLine_78 rfl ?_
  have hV := hV.2
  by_cases h10 : (g7.2.2 8 y3.toNatClampNeg).toInt < 0 ∨ 8 < (g7.2.2 8 y3.toNatClampNeg).toInt
  · have hV := hV.1 h10
    refine jj_tabOut hC 246 dX0_doNextLine_79 h10 (by decide) ?_
    refine jj_iconst (pc2 := 247) hC 1 dX0_doNextLine_246 (by decide) rfl ?_
    exact jj_zret hC jj_nb1 dX0_doNextLine_247 hV
  have hV := hV.2
  rcases jj_sw_0_8 (g7.2.2 8 y3.toNatClampNeg) h10 with hs | hs | hs | hs | hs | hs | hs | hs | hs
  · have hV := hV.1 hs
    refine jj_tabIn (off := 49) hC 128 dX0_doNextLine_79 (fun q => h10 (Or.inl q)) (fun q => h10 (Or.inr q)) (by rw [hs]; decide) (by decide) ?_
    refine jj_aload_n (pc2 := 129) hC dX0_doNextLine_128 rfl 5 rfl rfl ?_
    refine jj_iload (pc2 := 131) hC dX0_doNextLine_129 1 rfl rfl ?_
    refine cp_A_value (pc2 := 134) hC hi_X0_doNextLine_X0 lk_X0_doNextLine_7 dX0_doNextLine_131 rfl (fun g11 eg11 => ?_)
    have hV := hV g11 eg11
    refine jj_iconst (pc2 := 135) hC 1 dX0_doNextLine_134 (by decide) rfl ?_
    exact jj_zret hC jj_nb1 dX0_doNextLine_135 hV
  · have hV := hV.2.1 hs
    refine jj_tabIn (off := 57) hC 136 dX0_doNextLine_79 (fun q => h10 (Or.inl q)) (fun q => h10 (Or.inr q)) (by rw [hs]; decide) (by decide) ?_
    refine jj_aload_n (pc2 := 137) hC dX0_doNextLine_136 rfl 5 rfl rfl ?_
    refine jj_dup (pc2 := 138) hC dX0_doNextLine_137 rfl rfl ?_
    refine cg_A_value (pc2 := 141) hC hi_X0_doNextLine_X0 lk_X0_doNextLine_7 dX0_doNextLine_138 rfl ?_
    refine jj_iload (pc2 := 143) hC dX0_doNextLine_141 1 rfl rfl ?_
    refine jj_iadd (pc2 := 144) hC dX0_doNextLine_143 rfl ?_
    refine cp_A_value (pc2 := 147) hC hi_X0_doNextLine_X0 lk_X0_doNextLine_7 dX0_doNextLine_144 rfl (fun g12 eg12 => ?_)
    have hV := hV g12 eg12
    refine jj_iconst (pc2 := 148) hC 1 dX0_doNextLine_147 (by decide) rfl ?_
    exact jj_zret hC jj_nb1 dX0_doNextLine_148 hV
  · have hV := hV.2.2.1 hs
    refine jj_tabIn (off := 70) hC 149 dX0_doNextLine_79 (fun q => h10 (Or.inl q)) (fun q => h10 (Or.inr q)) (by rw [hs]; decide) (by decide) ?_
    refine jj_aload_n (pc2 := 150) hC dX0_doNextLine_149 rfl 5 rfl rfl ?_
    refine jj_aload_n (pc2 := 151) hC dX0_doNextLine_150 rfl 5 rfl rfl ?_
    refine cg_A_cells (pc2 := 154) hC hi_X0_doNextLine_X0 lk_X0_doNextLine_8 dX0_doNextLine_151 rfl ?_
    refine jj_iload (pc2 := 156) hC dX0_doNextLine_154 0 rfl rfl ?_
    refine cl_A_cells (pc2 := 157) hC hV.1 dX0_doNextLine_156 rfl ?_
    have hV := hV.2
    refine cp_A_value (pc2 := 160) hC hi_X0_doNextLine_X0 lk_X0_doNextLine_7 dX0_doNextLine_157 rfl (fun g13 eg13 => ?_)
    have hV := hV g13 eg13
    refine jj_iconst (pc2 := 161) hC 1 dX0_doNextLine_160 (by decide) rfl ?_
    exact jj_zret hC jj_nb1 dX0_doNextLine_161 hV
  · have hV := hV.2.2.2.1 hs
    refine jj_tabIn (off := 83) hC 162 dX0_doNextLine_79 (fun q => h10 (Or.inl q)) (fun q => h10 (Or.inr q)) (by rw [hs]; decide) (by decide) ?_
    refine jj_aload_n (pc2 := 163) hC dX0_doNextLine_162 rfl 5 rfl rfl ?_
    refine jj_iload (pc2 := 165) hC dX0_doNextLine_163 0 rfl rfl ?_
    refine jj_cVV (pc2 := 168) (wd := wc_d Y X cs ad) (g := g7) (rest := []) hC (Y.length + 2) (jx_at (V := wc_W cs ad g7) rfl) rfl rfl (kc_X0_write l D cs Y X ad y9 g7 _ hV) (cwV 1 hC.1.2.2.2.2 gX0_doNextLine_X0_write rfl rfl rfl (by decide +kernel) ⟨by decide, by decide⟩) rfl (Nat.le_of_ble_eq_true rfl) _ rfl dX0_doNextLine_165 ⟨Nat.zero_le _, Nat.zero_le _⟩ rfl (fun g15 hV => ?_)
    refine jj_iconst (pc2 := 169) hC 1 dX0_doNextLine_168 (by decide) rfl ?_
    exact jj_zret hC jj_nb1 dX0_doNextLine_169 hV
  · have hV := hV.2.2.2.2.1 hs
    refine jj_tabIn (off := 91) hC 170 dX0_doNextLine_79 (fun q => h10 (Or.inl q)) (fun q => h10 (Or.inr q)) (by rw [hs]; decide) (by decide) ?_
    refine jj_aload_n (pc2 := 171) hC dX0_doNextLine_170 rfl 5 rfl rfl ?_
    refine jj_iload (pc2 := 173) hC dX0_doNextLine_171 1 rfl rfl ?_
    refine jj_cVI (pc2 := 176) (wd := wc_d Y X cs ad) (g := g7) (rest := []) hC (Y.length + 2) (jx_at (V := wc_W cs ad g7) rfl) rfl rfl (kc_X0_enter l D cs Y X ad y8 g7 _ hV) (cwV 1 hC.1.2.2.2.2 gX0_doNextLine_X0_enter rfl rfl rfl (by decide +kernel) ⟨by decide, by decide⟩) rfl (Nat.le_of_ble_eq_true rfl) _ rfl dX0_doNextLine_173 ⟨Nat.zero_le _, Nat.zero_le _⟩ rfl (fun r16 g17 hV => ?_)
    exact jj_zret hC hV.1 dX0_doNextLine_176 hV.2
  · have hV := hV.2.2.2.2.2.1 hs
    refine jj_tabIn (off := 98) hC 177 dX0_doNextLine_79 (fun q => h10 (Or.inl q)) (fun q => h10 (Or.inr q)) (by rw [hs]; decide) (by decide) ?_
    refine jj_aload_n (pc2 := 178) hC dX0_doNextLine_177 rfl 5 rfl rfl ?_
    refine cg_A_value (pc2 := 181) hC hi_X0_doNextLine_X0 lk_X0_doNextLine_7 dX0_doNextLine_178 rfl ?_
    refine jj_if_ne (pc2 := 184) hC 195 dX0_doNextLine_181 (by decide) rfl (fun h18 => ?_) (fun h18 => ?_)
    · have hV := hV.1 h18
      refine jj_iconst (pc2 := 196) hC 1 dX0_doNextLine_195 (by decide) rfl ?_
      exact jj_zret hC jj_nb1 dX0_doNextLine_196 hV
    · have hV := hV.2 h18
      refine jj_aload_n (pc2 := 185) hC dX0_doNextLine_184 rfl 5 rfl rfl ?_
      refine cg_A_nextLines (pc2 := 188) hC hi_X0_doNextLine_X0 lk_X0_doNextLine_3 dX0_doNextLine_185 rfl ?_
      refine jj_iload_n (pc2 := 189) hC dX0_doNextLine_188 rfl 4 rfl rfl ?_
      refine jj_dup2 (pc2 := 190) hC dX0_doNextLine_189 rfl rfl rfl ?_
      refine cl_A_nextLines (pc2 := 191) hC hV.1 dX0_doNextLine_190 rfl ?_
      have hV := hV.2
      refine jj_iload (pc2 := 193) hC dX0_doNextLine_191 1 rfl rfl ?_
      refine jj_iadd (pc2 := 194) hC dX0_doNextLine_193 rfl ?_
      refine ct_A_nextLines (pc2 := 195) hC hV.1 dX0_doNextLine_194 rfl (fun g19 eg19 => ?_)
      have hV := hV.2 g19 eg19
      refine jj_iconst (pc2 := 196) hC 1 dX0_doNextLine_195 (by decide) rfl ?_
      exact jj_zret hC jj_nb1 dX0_doNextLine_196 hV
  · have hV := hV.2.2.2.2.2.2.1 hs
    refine jj_tabIn (off := 118) hC 197 dX0_doNextLine_79 (fun q => h10 (Or.inl q)) (fun q => h10 (Or.inr q)) (by rw [hs]; decide) (by decide) ?_
    refine jj_aload_n (pc2 := 198) hC dX0_doNextLine_197 rfl 5 rfl rfl ?_
    refine cg_A_value (pc2 := 201) hC hi_X0_doNextLine_X0 lk_X0_doNextLine_7 dX0_doNextLine_198 rfl ?_
    refine jj_if_lt (pc2 := 204) hC 208 dX0_doNextLine_201 (by decide) rfl (fun h20 => ?_) (fun h20 => ?_)
    · have hV := hV.1 h20
      refine jj_iconst (pc2 := 209) hC 0 dX0_doNextLine_208 (by decide) rfl ?_
      exact jj_zret hC jj_nb0 dX0_doNextLine_209 hV
    · have hV := hV.2 h20
      refine jj_iconst (pc2 := 205) hC 1 dX0_doNextLine_204 (by decide) rfl ?_
      refine jj_goto hC 209 dX0_doNextLine_205 (by decide) ?_
      exact jj_zret hC jj_nb1 dX0_doNextLine_209 hV
  · have hV := hV.2.2.2.2.2.2.2.1 hs
    refine jj_tabIn (off := 131) hC 210 dX0_doNextLine_79 (fun q => h10 (Or.inl q)) (fun q => h10 (Or.inr q)) (by rw [hs]; decide) (by decide) ?_
    refine jj_aload_n (pc2 := 211) hC dX0_doNextLine_210 rfl 5 rfl rfl ?_
    refine jj_dup (pc2 := 212) hC dX0_doNextLine_211 rfl rfl ?_
    refine cg_A_value (pc2 := 215) hC hi_X0_doNextLine_X0 lk_X0_doNextLine_7 dX0_doNextLine_212 rfl ?_
    refine jj_aload_n (pc2 := 216) hC dX0_doNextLine_215 rfl 5 rfl rfl ?_
    refine cg_A_cells (pc2 := 219) hC hi_X0_doNextLine_X0 lk_X0_doNextLine_8 dX0_doNextLine_216 rfl ?_
    refine jj_iload (pc2 := 221) hC dX0_doNextLine_219 0 rfl rfl ?_
    refine cl_A_cells (pc2 := 222) hC hV.1 dX0_doNextLine_221 rfl ?_
    have hV := hV.2
    refine jj_iadd (pc2 := 223) hC dX0_doNextLine_222 rfl ?_
    refine cp_A_value (pc2 := 226) hC hi_X0_doNextLine_X0 lk_X0_doNextLine_7 dX0_doNextLine_223 rfl (fun g21 eg21 => ?_)
    have hV := hV g21 eg21
    refine jj_iconst (pc2 := 227) hC 1 dX0_doNextLine_226 (by decide) rfl ?_
    exact jj_zret hC jj_nb1 dX0_doNextLine_227 hV
  · have hV := hV.2.2.2.2.2.2.2.2 hs
    refine jj_tabIn (off := 149) hC 228 dX0_doNextLine_79 (fun q => h10 (Or.inl q)) (fun q => h10 (Or.inr q)) (by rw [hs]; decide) (by decide) ?_
    refine jj_aload_n (pc2 := 229) hC dX0_doNextLine_228 rfl 5 rfl rfl ?_
    refine jj_dup (pc2 := 230) hC dX0_doNextLine_229 rfl rfl ?_
    refine cg_A_value (pc2 := 233) hC hi_X0_doNextLine_X0 lk_X0_doNextLine_7 dX0_doNextLine_230 rfl ?_
    refine jj_aload_n (pc2 := 234) hC dX0_doNextLine_233 rfl 5 rfl rfl ?_
    refine cg_A_cells (pc2 := 237) hC hi_X0_doNextLine_X0 lk_X0_doNextLine_8 dX0_doNextLine_234 rfl ?_
    refine jj_iload (pc2 := 239) hC dX0_doNextLine_237 0 rfl rfl ?_
    refine cl_A_cells (pc2 := 240) hC hV.1 dX0_doNextLine_239 rfl ?_
    have hV := hV.2
    refine jj_isub (pc2 := 241) hC dX0_doNextLine_240 rfl ?_
    refine cp_A_value (pc2 := 244) hC hi_X0_doNextLine_X0 lk_X0_doNextLine_7 dX0_doNextLine_241 rfl (fun g22 eg22 => ?_)
    have hV := hV g22 eg22
    refine jj_iconst (pc2 := 245) hC 1 dX0_doNextLine_244 (by decide) rfl ?_
    exact jj_zret hC jj_nb1 dX0_doNextLine_245 hV
theorem hi_X0_perform_X0 : ∀ w ∈ u_ws RX0 TX0 10, w ∈ wsX0_perform := fun _ h => List.mem_cons_of_mem _ (List.mem_append_left _ (List.mem_append_right _ h))
theorem lk_X0_perform_1 : Cond.fieldLink RX0 43 "PartedHouse$Act" "open" "I" ∈ wsX0_perform := List.mem_of_getElem? (i := 1) rfl
abbrev rm_X0_perform : Room := { frames := 3, cells := 0, slots := 0, locals := 71 }
def vc_X0_perform_16 (kk : Nat) (K54 : cm_M → Prop) (Post : Int32 → cm_M → Prop) : Nat → Int32 → cm_M → Prop
  | 0, _, _ => False
  | f + 1, x5, g => ((300 ≤ x5) → (K54 g)) ∧ ((¬ 300 ≤ x5) → (vc_X0_leaveEnded g (fun (g7 : cm_M) => ((¬ (g7.2.2 23 0) = 0) → (vc_X0_doNextLine g7 (fun (r9 : Int32) (g10 : cm_M) => ((¬ r9 = 0) → (vc_X0_perform_16 kk K54 Post f (x5 + 1) g10)) ∧ ((r9 = 0) → (Post 0 g10))))) ∧ (((g7.2.2 23 0) = 0) → (Post 1 g7)))))
def vc_X0_perform (kk : Nat) (a2 : Int32) (a3 : Int32) (g0 : cm_M) (Post : Int32 → cm_M → Prop) : Prop := vc_X0_begin kk a3 g0 (fun (g2 : cm_M) => vc_X0_enter a2 g2 (fun (r3 : Int32) (g4 : cm_M) => ∃ n16 : Nat, vc_X0_perform_16 kk (fun (g12 : cm_M) => vc_X0_leaveEnded g12 (fun (g14 : cm_M) => ((¬ (g14.2.2 23 0) = 0) → (Post 0 g14)) ∧ (((g14.2.2 23 0) = 0) → (Post 1 g14)))) Post n16 0 g4))
set_option maxHeartbeats 4000000 in
set_option maxRecDepth 100000 in
theorem ac_X0_perform_oldCells_16 {p : Program} {l : Launch} {e : Env} {s : State} {m : MethodId} {args : Array Value} {below : List Frame} {meth : Method} {c : Code} {D : va_G} {cs : Nat → ClassId} {Y X : va_W} {ad : Nat → Nat} {g0 : cm_M} (hC : JC p s m args meth c D vwCl (va_A (wc_d Y X cs ad g0) s.heap.size) 6 cX0_perform (some .boolean) wsX0_perform RX0 (jt_tys cs)) (Post : Int32 → cm_M → Prop) (K54 : cm_M → Prop) (hK54 : ∀ (g : cm_M) , K54 g → JJ (wc_d Y X cs ad) p l e rm_X0_perform s m args below meth c D vwCl (va_A (wc_d Y X cs ad g0) s.heap.size) 6 0 0 (MQ below (jj_QI (wc_d Y X cs ad) D vwCl (jt_tys cs) g0 s.heap.size Post) args s 0 0 (va_A (wc_d Y X cs ad g0) s.heap.size)) 54 [(0, .ref (ad 2)), (1, .ref (ad 1))] [] g) : ∀ (f : Nat) (x5 : Int32) (g : cm_M), vc_X0_perform_16 25 K54 Post f x5 g → JJ (wc_d Y X cs ad) p l e rm_X0_perform s m args below meth c D vwCl (va_A (wc_d Y X cs ad g0) s.heap.size) 6 0 0 (MQ below (jj_QI (wc_d Y X cs ad) D vwCl (jt_tys cs) g0 s.heap.size Post) args s 0 0 (va_A (wc_d Y X cs ad g0) s.heap.size)) 16 [(0, .ref (ad 2)), (1, .ref (ad 1)), (5, .int x5)] [] g := by
  intro f
  induction f with
  | zero => intro x5 g hV; exact hV.elim
  | succ f ih =>
    intro x5 g hV
    rw [vc_X0_perform_16] at hV
    refine jj_iload (pc2 := 18) hC dX0_perform_16 2 rfl rfl ?_
    refine jj_sipush (pc2 := 21) hC 300 dX0_perform_18 (by decide) rfl ?_
    refine jj_icmp_ge (pc2 := 24) hC 54 dX0_perform_21 (by decide) rfl (fun h5 => ?_) (fun h5 => ?_)
    · have hV := hV.1 h5
      exact jj_sub (lv2 := [(0, .ref (ad 2)), (1, .ref (ad 1))]) [0, 1] rfl (hK54 g hV)
    · have hV := hV.2 h5
      refine jj_aload_n (pc2 := 25) hC dX0_perform_24 rfl 0 rfl rfl ?_
      refine jj_aload_n (pc2 := 26) hC dX0_perform_25 rfl 1 rfl rfl ?_
      refine jj_cVV (pc2 := 29) (wd := wc_d Y X cs ad) (g := g) (rest := []) hC (Y.length + 2) (jx_at (V := wc_W cs ad g) rfl) rfl rfl (kc_X0_leaveEnded l D cs Y X ad  g _ hV) (cwV 1 hC.1.2.2.2.2 gX0_perform_X0_leaveEnded rfl rfl rfl (by decide +kernel) ⟨by decide, by decide⟩) rfl (Nat.le_of_ble_eq_true rfl) _ rfl dX0_perform_26 ⟨Nat.zero_le _, Nat.zero_le _⟩ rfl (fun g7 hV => ?_)
      refine jj_aload_n (pc2 := 30) hC dX0_perform_29 rfl 0 rfl rfl ?_
      refine cg_A_open (pc2 := 33) hC hi_X0_perform_X0 lk_X0_perform_1 dX0_perform_30 rfl ?_
      refine jj_if_ne (pc2 := 36) hC 38 dX0_perform_33 (by decide) rfl (fun h8 => ?_) (fun h8 => ?_)
      · have hV := hV.1 h8
        refine jj_aload_n (pc2 := 39) hC dX0_perform_38 rfl 0 rfl rfl ?_
        refine jj_aload_n (pc2 := 40) hC dX0_perform_39 rfl 1 rfl rfl ?_
        refine jj_cVI (pc2 := 43) (wd := wc_d Y X cs ad) (g := g7) (rest := []) hC (Y.length + 2) (jx_at (V := wc_W cs ad g7) rfl) rfl rfl (kc_X0_doNextLine l D cs Y X ad  g7 _ hV) (cwV 1 hC.1.2.2.2.2 gX0_perform_X0_doNextLine rfl rfl rfl (by decide +kernel) ⟨by decide, by decide⟩) rfl (Nat.le_of_ble_eq_true rfl) _ rfl dX0_perform_40 ⟨Nat.zero_le _, Nat.zero_le _⟩ rfl (fun r9 g10 hV => ?_)
        refine jj_if_ne (pc2 := 46) hC 48 dX0_perform_43 (by decide) rfl (fun h11 => ?_) (fun h11 => ?_)
        · have hV := hV.1 h11
          refine jj_iinc (pc2 := 51) hC (x5 + 1) [(5, .int (x5 + 1)), (0, .ref (ad 2)), (1, .ref (ad 1))] dX0_perform_48 2 rfl rfl (by decide) rfl rfl ?_
          refine jj_goto hC 16 dX0_perform_51 (by decide) ?_
          exact jj_sub (lv2 := [(0, .ref (ad 2)), (1, .ref (ad 1)), (5, .int (x5 + 1))]) [1, 2, 0] rfl (ih (x5 + 1) g10 hV)
        · have hV := hV.2 h11
          refine jj_iconst (pc2 := 47) hC 0 dX0_perform_46 (by decide) rfl ?_
          exact jj_zret hC jj_nb0 dX0_perform_47 hV
      · have hV := hV.2 h8
        refine jj_iconst (pc2 := 37) hC 1 dX0_perform_36 (by decide) rfl ?_
        exact jj_zret hC jj_nb1 dX0_perform_37 hV
set_option maxHeartbeats 4000000 in
set_option maxRecDepth 100000 in
theorem kc_X0_perform_oldCells (l : Launch) (D : va_G) (cs : Nat → ClassId) (Y X : va_W) (ad : Nat → Nat) (a2 : Int32) (a3 : Int32) (g0 : cm_M) (Post : Int32 → cm_M → Prop) (hV : vc_X0_perform 25 a2 a3 g0 Post) : JI (wc_d Y X cs ad) D vwCl (jt_tys cs) l yX0_perform wsX0_perform rm_X0_perform 0 0 [.ref (ad 2), .ref (ad 1), .int a2, .int a3, .ref (ad 30)] g0 Post := by
  refine jj_metI (cc := cX0_perform) (nL := 6) (ret := (some .boolean)) (by decide) rfl (Nat.le_of_ble_eq_true rfl) [(0, .ref (ad 2)), (1, .ref (ad 1)), (2, .int a2), (3, .int a3), (4, .ref (ad 30))] rfl ?_
  intro p e s m args below meth c hC hnm
  rw [vc_X0_perform] at hV
  refine jj_aload_n (pc2 := 1) hC dX0_perform_0 rfl 0 rfl rfl ?_
  refine jj_aload (pc2 := 3) hC dX0_perform_1 4 rfl rfl ?_
  refine jj_iload_n (pc2 := 4) hC dX0_perform_3 rfl 3 rfl rfl ?_
  refine jj_cVV (pc2 := 7) (wd := wc_d Y X cs ad) (g := g0) (rest := []) hC (Y.length + 2) (jx_at (V := wc_W cs ad g0) rfl) rfl rfl (kc_X0_begin_oldCells l D cs Y X ad a3 g0 _ hV) (cwV 2 hC.1.2.2.2.2 gX0_perform_X0_begin rfl rfl rfl (by decide +kernel) ⟨by decide, by decide⟩) rfl (Nat.le_of_ble_eq_true rfl) _ rfl dX0_perform_4 ⟨Nat.zero_le _, Nat.zero_le _⟩ rfl (fun g2 hV => ?_)
  refine jj_aload_n (pc2 := 8) hC dX0_perform_7 rfl 0 rfl rfl ?_
  refine jj_iload_n (pc2 := 9) hC dX0_perform_8 rfl 2 rfl rfl ?_
  refine jj_cVI (pc2 := 12) (wd := wc_d Y X cs ad) (g := g2) (rest := []) hC (Y.length + 2) (jx_at (V := wc_W cs ad g2) rfl) rfl rfl (kc_X0_enter l D cs Y X ad a2 g2 _ hV) (cwV 1 hC.1.2.2.2.2 gX0_perform_X0_enter rfl rfl rfl (by decide +kernel) ⟨by decide, by decide⟩) rfl (Nat.le_of_ble_eq_true rfl) _ rfl dX0_perform_9 ⟨Nat.zero_le _, Nat.zero_le _⟩ rfl (fun r3 g4 hV => ?_)
  refine jj_pop (pc2 := 13) hC dX0_perform_12 rfl rfl ?_
  refine jj_iconst (pc2 := 14) hC 0 dX0_perform_13 (by decide) rfl ?_
  refine jj_istore (pc2 := 16) hC [(5, .int 0), (0, .ref (ad 2)), (1, .ref (ad 1)), (2, .int a2), (3, .int a3), (4, .ref (ad 30))] dX0_perform_14 (by decide) rfl rfl ?_
  obtain ⟨n16, hV⟩ := hV
  refine jj_sub (lv2 := [(0, .ref (ad 2)), (1, .ref (ad 1)), (5, .int 0)]) [1, 2, 0] rfl (ac_X0_perform_oldCells_16 hC Post _ (fun g12 hV => ?_) n16 0 g4 hV)
  refine jj_aload_n (pc2 := 55) hC dX0_perform_54 rfl 0 rfl rfl ?_
  refine jj_aload_n (pc2 := 56) hC dX0_perform_55 rfl 1 rfl rfl ?_
  refine jj_cVV (pc2 := 59) (wd := wc_d Y X cs ad) (g := g12) (rest := []) hC (Y.length + 2) (jx_at (V := wc_W cs ad g12) rfl) rfl rfl (kc_X0_leaveEnded l D cs Y X ad  g12 _ hV) (cwV 1 hC.1.2.2.2.2 gX0_perform_X0_leaveEnded rfl rfl rfl (by decide +kernel) ⟨by decide, by decide⟩) rfl (Nat.le_of_ble_eq_true rfl) _ rfl dX0_perform_56 ⟨Nat.zero_le _, Nat.zero_le _⟩ rfl (fun g14 hV => ?_)
  refine jj_aload_n (pc2 := 60) hC dX0_perform_59 rfl 0 rfl rfl ?_
  refine cg_A_open (pc2 := 63) hC hi_X0_perform_X0 lk_X0_perform_1 dX0_perform_60 rfl ?_
  refine jj_if_ne (pc2 := 66) hC 70 dX0_perform_63 (by decide) rfl (fun h15 => ?_) (fun h15 => ?_)
  · have hV := hV.1 h15
    refine jj_iconst (pc2 := 71) hC 0 dX0_perform_70 (by decide) rfl ?_
    exact jj_zret hC jj_nb0 dX0_perform_71 hV
  · have hV := hV.2 h15
    refine jj_iconst (pc2 := 67) hC 1 dX0_perform_66 (by decide) rfl ?_
    refine jj_goto hC 71 dX0_perform_67 (by decide) ?_
    exact jj_zret hC jj_nb1 dX0_perform_71 hV
set_option maxHeartbeats 4000000 in
set_option maxRecDepth 100000 in
theorem ac_X0_perform_newCells_16 {p : Program} {l : Launch} {e : Env} {s : State} {m : MethodId} {args : Array Value} {below : List Frame} {meth : Method} {c : Code} {D : va_G} {cs : Nat → ClassId} {Y X : va_W} {ad : Nat → Nat} {g0 : cm_M} (hC : JC p s m args meth c D vwCl (va_A (wc_d Y X cs ad g0) s.heap.size) 6 cX0_perform (some .boolean) wsX0_perform RX0 (jt_tys cs)) (Post : Int32 → cm_M → Prop) (K54 : cm_M → Prop) (hK54 : ∀ (g : cm_M) , K54 g → JJ (wc_d Y X cs ad) p l e rm_X0_perform s m args below meth c D vwCl (va_A (wc_d Y X cs ad g0) s.heap.size) 6 0 0 (MQ below (jj_QI (wc_d Y X cs ad) D vwCl (jt_tys cs) g0 s.heap.size Post) args s 0 0 (va_A (wc_d Y X cs ad g0) s.heap.size)) 54 [(0, .ref (ad 2)), (1, .ref (ad 1))] [] g) : ∀ (f : Nat) (x5 : Int32) (g : cm_M), vc_X0_perform_16 26 K54 Post f x5 g → JJ (wc_d Y X cs ad) p l e rm_X0_perform s m args below meth c D vwCl (va_A (wc_d Y X cs ad g0) s.heap.size) 6 0 0 (MQ below (jj_QI (wc_d Y X cs ad) D vwCl (jt_tys cs) g0 s.heap.size Post) args s 0 0 (va_A (wc_d Y X cs ad g0) s.heap.size)) 16 [(0, .ref (ad 2)), (1, .ref (ad 1)), (5, .int x5)] [] g := by
  intro f
  induction f with
  | zero => intro x5 g hV; exact hV.elim
  | succ f ih =>
    intro x5 g hV
    rw [vc_X0_perform_16] at hV
    refine jj_iload (pc2 := 18) hC dX0_perform_16 2 rfl rfl ?_
    refine jj_sipush (pc2 := 21) hC 300 dX0_perform_18 (by decide) rfl ?_
    refine jj_icmp_ge (pc2 := 24) hC 54 dX0_perform_21 (by decide) rfl (fun h5 => ?_) (fun h5 => ?_)
    · have hV := hV.1 h5
      exact jj_sub (lv2 := [(0, .ref (ad 2)), (1, .ref (ad 1))]) [0, 1] rfl (hK54 g hV)
    · have hV := hV.2 h5
      refine jj_aload_n (pc2 := 25) hC dX0_perform_24 rfl 0 rfl rfl ?_
      refine jj_aload_n (pc2 := 26) hC dX0_perform_25 rfl 1 rfl rfl ?_
      refine jj_cVV (pc2 := 29) (wd := wc_d Y X cs ad) (g := g) (rest := []) hC (Y.length + 2) (jx_at (V := wc_W cs ad g) rfl) rfl rfl (kc_X0_leaveEnded l D cs Y X ad  g _ hV) (cwV 1 hC.1.2.2.2.2 gX0_perform_X0_leaveEnded rfl rfl rfl (by decide +kernel) ⟨by decide, by decide⟩) rfl (Nat.le_of_ble_eq_true rfl) _ rfl dX0_perform_26 ⟨Nat.zero_le _, Nat.zero_le _⟩ rfl (fun g7 hV => ?_)
      refine jj_aload_n (pc2 := 30) hC dX0_perform_29 rfl 0 rfl rfl ?_
      refine cg_A_open (pc2 := 33) hC hi_X0_perform_X0 lk_X0_perform_1 dX0_perform_30 rfl ?_
      refine jj_if_ne (pc2 := 36) hC 38 dX0_perform_33 (by decide) rfl (fun h8 => ?_) (fun h8 => ?_)
      · have hV := hV.1 h8
        refine jj_aload_n (pc2 := 39) hC dX0_perform_38 rfl 0 rfl rfl ?_
        refine jj_aload_n (pc2 := 40) hC dX0_perform_39 rfl 1 rfl rfl ?_
        refine jj_cVI (pc2 := 43) (wd := wc_d Y X cs ad) (g := g7) (rest := []) hC (Y.length + 2) (jx_at (V := wc_W cs ad g7) rfl) rfl rfl (kc_X0_doNextLine l D cs Y X ad  g7 _ hV) (cwV 1 hC.1.2.2.2.2 gX0_perform_X0_doNextLine rfl rfl rfl (by decide +kernel) ⟨by decide, by decide⟩) rfl (Nat.le_of_ble_eq_true rfl) _ rfl dX0_perform_40 ⟨Nat.zero_le _, Nat.zero_le _⟩ rfl (fun r9 g10 hV => ?_)
        refine jj_if_ne (pc2 := 46) hC 48 dX0_perform_43 (by decide) rfl (fun h11 => ?_) (fun h11 => ?_)
        · have hV := hV.1 h11
          refine jj_iinc (pc2 := 51) hC (x5 + 1) [(5, .int (x5 + 1)), (0, .ref (ad 2)), (1, .ref (ad 1))] dX0_perform_48 2 rfl rfl (by decide) rfl rfl ?_
          refine jj_goto hC 16 dX0_perform_51 (by decide) ?_
          exact jj_sub (lv2 := [(0, .ref (ad 2)), (1, .ref (ad 1)), (5, .int (x5 + 1))]) [1, 2, 0] rfl (ih (x5 + 1) g10 hV)
        · have hV := hV.2 h11
          refine jj_iconst (pc2 := 47) hC 0 dX0_perform_46 (by decide) rfl ?_
          exact jj_zret hC jj_nb0 dX0_perform_47 hV
      · have hV := hV.2 h8
        refine jj_iconst (pc2 := 37) hC 1 dX0_perform_36 (by decide) rfl ?_
        exact jj_zret hC jj_nb1 dX0_perform_37 hV
set_option maxHeartbeats 4000000 in
set_option maxRecDepth 100000 in
theorem kc_X0_perform_newCells (l : Launch) (D : va_G) (cs : Nat → ClassId) (Y X : va_W) (ad : Nat → Nat) (a2 : Int32) (a3 : Int32) (g0 : cm_M) (Post : Int32 → cm_M → Prop) (hV : vc_X0_perform 26 a2 a3 g0 Post) : JI (wc_d Y X cs ad) D vwCl (jt_tys cs) l yX0_perform wsX0_perform rm_X0_perform 0 0 [.ref (ad 2), .ref (ad 1), .int a2, .int a3, .ref (ad 31)] g0 Post := by
  refine jj_metI (cc := cX0_perform) (nL := 6) (ret := (some .boolean)) (by decide) rfl (Nat.le_of_ble_eq_true rfl) [(0, .ref (ad 2)), (1, .ref (ad 1)), (2, .int a2), (3, .int a3), (4, .ref (ad 31))] rfl ?_
  intro p e s m args below meth c hC hnm
  rw [vc_X0_perform] at hV
  refine jj_aload_n (pc2 := 1) hC dX0_perform_0 rfl 0 rfl rfl ?_
  refine jj_aload (pc2 := 3) hC dX0_perform_1 4 rfl rfl ?_
  refine jj_iload_n (pc2 := 4) hC dX0_perform_3 rfl 3 rfl rfl ?_
  refine jj_cVV (pc2 := 7) (wd := wc_d Y X cs ad) (g := g0) (rest := []) hC (Y.length + 2) (jx_at (V := wc_W cs ad g0) rfl) rfl rfl (kc_X0_begin_newCells l D cs Y X ad a3 g0 _ hV) (cwV 2 hC.1.2.2.2.2 gX0_perform_X0_begin rfl rfl rfl (by decide +kernel) ⟨by decide, by decide⟩) rfl (Nat.le_of_ble_eq_true rfl) _ rfl dX0_perform_4 ⟨Nat.zero_le _, Nat.zero_le _⟩ rfl (fun g2 hV => ?_)
  refine jj_aload_n (pc2 := 8) hC dX0_perform_7 rfl 0 rfl rfl ?_
  refine jj_iload_n (pc2 := 9) hC dX0_perform_8 rfl 2 rfl rfl ?_
  refine jj_cVI (pc2 := 12) (wd := wc_d Y X cs ad) (g := g2) (rest := []) hC (Y.length + 2) (jx_at (V := wc_W cs ad g2) rfl) rfl rfl (kc_X0_enter l D cs Y X ad a2 g2 _ hV) (cwV 1 hC.1.2.2.2.2 gX0_perform_X0_enter rfl rfl rfl (by decide +kernel) ⟨by decide, by decide⟩) rfl (Nat.le_of_ble_eq_true rfl) _ rfl dX0_perform_9 ⟨Nat.zero_le _, Nat.zero_le _⟩ rfl (fun r3 g4 hV => ?_)
  refine jj_pop (pc2 := 13) hC dX0_perform_12 rfl rfl ?_
  refine jj_iconst (pc2 := 14) hC 0 dX0_perform_13 (by decide) rfl ?_
  refine jj_istore (pc2 := 16) hC [(5, .int 0), (0, .ref (ad 2)), (1, .ref (ad 1)), (2, .int a2), (3, .int a3), (4, .ref (ad 31))] dX0_perform_14 (by decide) rfl rfl ?_
  obtain ⟨n16, hV⟩ := hV
  refine jj_sub (lv2 := [(0, .ref (ad 2)), (1, .ref (ad 1)), (5, .int 0)]) [1, 2, 0] rfl (ac_X0_perform_newCells_16 hC Post _ (fun g12 hV => ?_) n16 0 g4 hV)
  refine jj_aload_n (pc2 := 55) hC dX0_perform_54 rfl 0 rfl rfl ?_
  refine jj_aload_n (pc2 := 56) hC dX0_perform_55 rfl 1 rfl rfl ?_
  refine jj_cVV (pc2 := 59) (wd := wc_d Y X cs ad) (g := g12) (rest := []) hC (Y.length + 2) (jx_at (V := wc_W cs ad g12) rfl) rfl rfl (kc_X0_leaveEnded l D cs Y X ad  g12 _ hV) (cwV 1 hC.1.2.2.2.2 gX0_perform_X0_leaveEnded rfl rfl rfl (by decide +kernel) ⟨by decide, by decide⟩) rfl (Nat.le_of_ble_eq_true rfl) _ rfl dX0_perform_56 ⟨Nat.zero_le _, Nat.zero_le _⟩ rfl (fun g14 hV => ?_)
  refine jj_aload_n (pc2 := 60) hC dX0_perform_59 rfl 0 rfl rfl ?_
  refine cg_A_open (pc2 := 63) hC hi_X0_perform_X0 lk_X0_perform_1 dX0_perform_60 rfl ?_
  refine jj_if_ne (pc2 := 66) hC 70 dX0_perform_63 (by decide) rfl (fun h15 => ?_) (fun h15 => ?_)
  · have hV := hV.1 h15
    refine jj_iconst (pc2 := 71) hC 0 dX0_perform_70 (by decide) rfl ?_
    exact jj_zret hC jj_nb0 dX0_perform_71 hV
  · have hV := hV.2 h15
    refine jj_iconst (pc2 := 67) hC 1 dX0_perform_66 (by decide) rfl ?_
    refine jj_goto hC 71 dX0_perform_67 (by decide) ?_
    exact jj_zret hC jj_nb1 dX0_perform_71 hV
theorem hi_X6_cellOf_X6 : ∀ w ∈ u_ws RX6 TX6 5, w ∈ wsX6_cellOf := fun _ h => List.mem_cons_of_mem _ (List.mem_append_right _ h)
theorem lk_X6_cellOf_1 : Cond.fieldLink RX6 11 "PartedHouse$Letters" "addresses" "[I" ∈ wsX6_cellOf := List.mem_of_getElem? (i := 1) rfl
abbrev rm_X6_cellOf : Room := { frames := 0, cells := 0, slots := 0, locals := 0 }
def vc_X6_cellOf (a1 : Int32) (g0 : cm_M) (Post : Int32 → Prop) : Prop := (vp_in a1 (g0.1.2.1 2)) ∧ (Post ((g0.2.2 37 a1.toNatClampNeg) / 36))
set_option maxHeartbeats 4000000 in
set_option maxRecDepth 100000 in
theorem kc_X6_cellOf (l : Launch) (D : va_G) (cs : Nat → ClassId) (Y X : va_W) (ad : Nat → Nat) (a1 : Int32) (g0 : cm_M) (Post : Int32 → Prop) (hV : vc_X6_cellOf a1 g0 Post) : JI (wc_d Y X cs ad) D vwCl (jt_tys cs) l yX6_cellOf wsX6_cellOf rm_X6_cellOf 0 0 [.ref (ad 5), .int a1] g0 (fun r g2 => Post r ∧ g2 = g0) := by
  refine jj_metI (cc := cX6_cellOf) (nL := 2) (ret := (some .int)) (by decide) rfl (Nat.le_of_ble_eq_true rfl) [(0, .ref (ad 5)), (1, .int a1)] rfl ?_
  intro p e s m args below meth c hC hnm
  rw [vc_X6_cellOf] at hV
  refine jj_aload_n (pc2 := 1) hC dX6_cellOf_0 rfl 0 rfl rfl ?_
  refine cg_L_addresses (pc2 := 4) hC hi_X6_cellOf_X6 lk_X6_cellOf_1 dX6_cellOf_1 rfl ?_
  refine jj_iload_n (pc2 := 5) hC dX6_cellOf_4 rfl 1 rfl rfl ?_
  refine cl_L_addresses (pc2 := 6) hC hV.1 dX6_cellOf_5 rfl ?_
  have hV := hV.2
  refine jj_bipush (pc2 := 8) hC 36 dX6_cellOf_6 (by decide) rfl ?_
  refine jj_idiv (pc2 := 9) hC dX6_cellOf_8 (by decide) rfl ?_
  exact jj_iret hC dX6_cellOf_9 ⟨hV, rfl⟩
theorem hi_X1_canCome_X1 : ∀ w ∈ u_ws RX1 TX1 8, w ∈ wsX1_canCome := fun _ h => List.mem_cons_of_mem _ (List.mem_append_right _ h)
theorem lk_X1_canCome_1 : Cond.fieldLink RX1 31 "PartedHouse$Arrivals" "needs" "[I" ∈ wsX1_canCome := List.mem_of_getElem? (i := 1) rfl
abbrev rm_X1_canCome : Room := { frames := 0, cells := 0, slots := 0, locals := 0 }
def vc_X1_canCome (a1 : Int32) (a2 : Int32) (g0 : cm_M) (Post : Int32 → Prop) : Prop := ((¬ ((a2 >>> (a1 &&& 31)) &&& 1) = 0) → (Post 0)) ∧ ((((a2 >>> (a1 &&& 31)) &&& 1) = 0) → ((vp_in a1 6) ∧ (((¬ ((g0.2.2 66 a1.toNatClampNeg) &&& (a2 ^^^ (-1))) = 0) → (Post 0)) ∧ ((((g0.2.2 66 a1.toNatClampNeg) &&& (a2 ^^^ (-1))) = 0) → (Post 1)))))
set_option maxHeartbeats 4000000 in
set_option maxRecDepth 100000 in
theorem kc_X1_canCome (l : Launch) (D : va_G) (cs : Nat → ClassId) (Y X : va_W) (ad : Nat → Nat) (a1 : Int32) (a2 : Int32) (g0 : cm_M) (Post : Int32 → Prop) (hV : vc_X1_canCome a1 a2 g0 Post) : JI (wc_d Y X cs ad) D vwCl (jt_tys cs) l yX1_canCome wsX1_canCome rm_X1_canCome 0 0 [.ref (ad 10), .int a1, .int a2] g0 (fun r g2 => Post r ∧ g2 = g0) := by
  refine jj_metI (cc := cX1_canCome) (nL := 3) (ret := (some .boolean)) (by decide) rfl (Nat.le_of_ble_eq_true rfl) [(0, .ref (ad 10)), (1, .int a1), (2, .int a2)] rfl ?_
  intro p e s m args below meth c hC hnm
  rw [vc_X1_canCome] at hV
  refine jj_iload_n (pc2 := 1) hC dX1_canCome_0 rfl 2 rfl rfl ?_
  refine jj_iload_n (pc2 := 2) hC dX1_canCome_1 rfl 1 rfl rfl ?_
  refine jj_ishr (pc2 := 3) hC dX1_canCome_2 rfl ?_
  refine jj_iconst (pc2 := 4) hC 1 dX1_canCome_3 (by decide) rfl ?_
  refine jj_iand (pc2 := 5) hC dX1_canCome_4 rfl ?_
  refine jj_if_ne (pc2 := 8) hC 25 dX1_canCome_5 (by decide) rfl (fun h1 => ?_) (fun h1 => ?_)
  · have hV := hV.1 h1
    refine jj_iconst (pc2 := 26) hC 0 dX1_canCome_25 (by decide) rfl ?_
    exact jj_zret hC jj_nb0 dX1_canCome_26 ⟨hV, rfl⟩
  · have hV := hV.2 h1
    refine jj_aload_n (pc2 := 9) hC dX1_canCome_8 rfl 0 rfl rfl ?_
    refine cg_V_needs (pc2 := 12) hC hi_X1_canCome_X1 lk_X1_canCome_1 dX1_canCome_9 rfl ?_
    refine jj_iload_n (pc2 := 13) hC dX1_canCome_12 rfl 1 rfl rfl ?_
    refine cl_V_needs (pc2 := 14) hC hV.1 dX1_canCome_13 rfl ?_
    have hV := hV.2
    refine jj_iload_n (pc2 := 15) hC dX1_canCome_14 rfl 2 rfl rfl ?_
    refine jj_iconst (pc2 := 16) hC (-1) dX1_canCome_15 (by decide) rfl ?_
    refine jj_ixor (pc2 := 17) hC dX1_canCome_16 rfl ?_
    refine jj_iand (pc2 := 18) hC dX1_canCome_17 rfl ?_
    refine jj_if_ne (pc2 := 21) hC 25 dX1_canCome_18 (by decide) rfl (fun h2 => ?_) (fun h2 => ?_)
    · have hV := hV.1 h2
      refine jj_iconst (pc2 := 26) hC 0 dX1_canCome_25 (by decide) rfl ?_
      exact jj_zret hC jj_nb0 dX1_canCome_26 ⟨hV, rfl⟩
    · have hV := hV.2 h2
      refine jj_iconst (pc2 := 22) hC 1 dX1_canCome_21 (by decide) rfl ?_
      refine jj_goto hC 26 dX1_canCome_22 (by decide) ?_
      exact jj_zret hC jj_nb1 dX1_canCome_26 ⟨hV, rfl⟩
theorem hi_X1_countInto_X1 : ∀ w ∈ u_ws RX1 TX1 8, w ∈ wsX1_countInto := fun _ h => List.mem_cons_of_mem _ (List.mem_append_right _ h)
theorem lk_X1_countInto_1 : Cond.fieldLink RX1 46 "PartedHouse$Arrivals" "size" "I" ∈ wsX1_countInto := List.mem_of_getElem? (i := 1) rfl
theorem lk_X1_countInto_2 : Cond.fieldLink RX1 18 "PartedHouse$Arrivals" "stands" "[Z" ∈ wsX1_countInto := List.mem_of_getElem? (i := 2) rfl
abbrev rm_X1_countInto : Room := { frames := 1, cells := 0, slots := 0, locals := 22 }
def vc_X1_countInto_30 (kk : Nat) (x2 : Int32) (x3 : Int32) (g : cm_M) (K68 : Int32 → Prop) (Post : cm_M → Prop) : Nat → Int32 → Int32 → Prop
  | 0, _, _ => False
  | f + 1, x4, x5 => (((g.2.2 67 0) ≤ x5) → (K68 x4)) ∧ ((¬ (g.2.2 67 0) ≤ x5) → (vc_X1_canCome x5 x3 g (fun (r5 : Int32) => ((r5 = 0) → (vc_X1_countInto_30 kk x2 x3 g K68 Post f x4 (x5 + 1))) ∧ ((¬ r5 = 0) → ((vp_in (x3 ||| ((1 : Int32) <<< (x5 &&& 31))) 64) ∧ (∀ y7 : Int32, y7 = x4 + (g.2.2 kk (x3 ||| ((1 : Int32) <<< (x5 &&& 31))).toNatClampNeg) → (vc_X1_countInto_30 kk x2 x3 g K68 Post f y7 (x5 + 1))))))))
def vc_X1_countInto_11 (kk : Nat) (x2 : Int32) (Post : cm_M → Prop) : Nat → Int32 → cm_M → Prop
  | 0, _, _ => False
  | f + 1, x3, g => ((x3 < 0) → (Post g)) ∧ ((¬ x3 < 0) → (((¬ x3 = x2) → (∃ n12 : Nat, vc_X1_countInto_30 kk x2 x3 g (fun (y8 : Int32) => (vp_in x3 64) ∧ ((((g.2.2 62 x3.toNatClampNeg) = 0) → ((vp_in x3 64) ∧ (∀ g10 : cm_M, g10 = cm_a g kk x3 0 → (vc_X1_countInto_11 kk x2 Post f (x3 + (-1)) g10)))) ∧ ((¬ (g.2.2 62 x3.toNatClampNeg) = 0) → ((vp_in x3 64) ∧ (∀ g11 : cm_M, g11 = cm_a g kk x3 y8 → (vc_X1_countInto_11 kk x2 Post f (x3 + (-1)) g11)))))) Post n12 0 0)) ∧ ((x3 = x2) → (∃ n17 : Nat, vc_X1_countInto_30 kk x2 x3 g (fun (y13 : Int32) => (vp_in x3 64) ∧ ((((g.2.2 62 x3.toNatClampNeg) = 0) → ((vp_in x3 64) ∧ (∀ g15 : cm_M, g15 = cm_a g kk x3 0 → (vc_X1_countInto_11 kk x2 Post f (x3 + (-1)) g15)))) ∧ ((¬ (g.2.2 62 x3.toNatClampNeg) = 0) → ((vp_in x3 64) ∧ (∀ g16 : cm_M, g16 = cm_a g kk x3 y13 → (vc_X1_countInto_11 kk x2 Post f (x3 + (-1)) g16)))))) Post n17 1 0))))
def vc_X1_countInto (kk : Nat) (g0 : cm_M) (Post : cm_M → Prop) : Prop := ∀ y1 : Int32, y1 = ((1 : Int32) <<< ((g0.2.2 67 0) &&& 31)) - 1 → (∃ n18 : Nat, vc_X1_countInto_11 kk y1 Post n18 y1 g0)
set_option maxHeartbeats 4000000 in
set_option maxRecDepth 100000 in
theorem ac_X1_countInto_ways_30 {p : Program} {l : Launch} {e : Env} {s : State} {m : MethodId} {args : Array Value} {below : List Frame} {meth : Method} {c : Code} {D : va_G} {cs : Nat → ClassId} {Y X : va_W} {ad : Nat → Nat} {g0 : cm_M} (hC : JC p s m args meth c D vwCl (va_A (wc_d Y X cs ad g0) s.heap.size) 6 cX1_countInto none wsX1_countInto RX1 (jt_tys cs)) (x2 : Int32) (x3 : Int32) (g : cm_M) (Post : cm_M → Prop) (K68 : Int32 → Prop) (hK68 : ∀ (z4 : Int32) , K68 z4 → JJ (wc_d Y X cs ad) p l e rm_X1_countInto s m args below meth c D vwCl (va_A (wc_d Y X cs ad g0) s.heap.size) 6 0 0 (MQ below (jj_QV (wc_d Y X cs ad) D vwCl (jt_tys cs) g0 s.heap.size Post) args s 0 0 (va_A (wc_d Y X cs ad g0) s.heap.size)) 68 [(0, .ref (ad 10)), (1, .ref (ad 54)), (2, .int x2), (3, .int x3), (4, .int z4)] [] g) : ∀ (f : Nat) (x4 : Int32) (x5 : Int32), vc_X1_countInto_30 60 x2 x3 g K68 Post f x4 x5 → JJ (wc_d Y X cs ad) p l e rm_X1_countInto s m args below meth c D vwCl (va_A (wc_d Y X cs ad g0) s.heap.size) 6 0 0 (MQ below (jj_QV (wc_d Y X cs ad) D vwCl (jt_tys cs) g0 s.heap.size Post) args s 0 0 (va_A (wc_d Y X cs ad g0) s.heap.size)) 30 [(0, .ref (ad 10)), (1, .ref (ad 54)), (2, .int x2), (3, .int x3), (4, .int x4), (5, .int x5)] [] g := by
  intro f
  induction f with
  | zero => intro x4 x5 hV; exact hV.elim
  | succ f ih =>
    intro x4 x5 hV
    rw [vc_X1_countInto_30] at hV
    refine jj_iload (pc2 := 32) hC dX1_countInto_30 5 rfl rfl ?_
    refine jj_aload_n (pc2 := 33) hC dX1_countInto_32 rfl 0 rfl rfl ?_
    refine cg_V_size (pc2 := 36) hC hi_X1_countInto_X1 lk_X1_countInto_1 dX1_countInto_33 rfl ?_
    refine jj_icmp_ge (pc2 := 39) hC 68 dX1_countInto_36 (by decide) rfl (fun h4 => ?_) (fun h4 => ?_)
    · have hV := hV.1 h4
      exact jj_sub (lv2 := [(0, .ref (ad 10)), (1, .ref (ad 54)), (2, .int x2), (3, .int x3), (4, .int x4)]) [0, 1, 2, 3, 4] rfl (hK68 x4 hV)
    · have hV := hV.2 h4
      refine jj_aload_n (pc2 := 40) hC dX1_countInto_39 rfl 0 rfl rfl ?_
      refine jj_iload (pc2 := 42) hC dX1_countInto_40 5 rfl rfl ?_
      refine jj_iload_n (pc2 := 43) hC dX1_countInto_42 rfl 3 rfl rfl ?_
      refine jj_cVIp (pc2 := 46) (wd := wc_d Y X cs ad) (g := g) (rest := []) hC (Y.length + 10) (jx_at (V := wc_W cs ad g) rfl) rfl rfl (kc_X1_canCome l D cs Y X ad x5 x3 g _ hV) (cwV 2 hC.1.2.2.2.2 gX1_countInto_X1_canCome rfl rfl rfl (by decide +kernel) ⟨by decide, by decide⟩) rfl (Nat.le_of_ble_eq_true rfl) _ rfl dX1_countInto_43 ⟨Nat.zero_le _, Nat.zero_le _⟩ rfl (fun r5 hV => ?_)
      refine jj_if_eq (pc2 := 49) hC 62 dX1_countInto_46 (by decide) rfl (fun h6 => ?_) (fun h6 => ?_)
      · have hV := hV.1 h6
        refine jj_iinc (pc2 := 65) hC (x5 + 1) [(5, .int (x5 + 1)), (0, .ref (ad 10)), (1, .ref (ad 54)), (2, .int x2), (3, .int x3), (4, .int x4)] dX1_countInto_62 5 rfl rfl (by decide) rfl rfl ?_
        refine jj_goto hC 30 dX1_countInto_65 (by decide) ?_
        exact jj_sub (lv2 := [(0, .ref (ad 10)), (1, .ref (ad 54)), (2, .int x2), (3, .int x3), (4, .int x4), (5, .int (x5 + 1))]) [1, 2, 3, 4, 5, 0] rfl (ih x4 (x5 + 1) hV)
      · have hV := hV.2 h6
        refine jj_iload (pc2 := 51) hC dX1_countInto_49 4 rfl rfl ?_
        refine jj_aload_n (pc2 := 52) hC dX1_countInto_51 rfl 1 rfl rfl ?_
        refine jj_iload_n (pc2 := 53) hC dX1_countInto_52 rfl 3 rfl rfl ?_
        refine jj_iconst (pc2 := 54) hC 1 dX1_countInto_53 (by decide) rfl ?_
        refine jj_iload (pc2 := 56) hC dX1_countInto_54 5 rfl rfl ?_
        refine jj_ishl (pc2 := 57) hC dX1_countInto_56 rfl ?_
        refine jj_ior (pc2 := 58) hC dX1_countInto_57 rfl ?_
        refine cl_V_ways (pc2 := 59) hC hV.1 dX1_countInto_58 rfl ?_
        have hV := hV.2
        refine jj_iadd (pc2 := 60) hC dX1_countInto_59 rfl ?_
        refine jj_topi (fun y7 ey7 => ?_)
        have hV := hV y7 ey7
        refine jj_istore (pc2 := 62) hC [(4, .int y7), (0, .ref (ad 10)), (1, .ref (ad 54)), (2, .int x2), (3, .int x3), (5, .int x5)] dX1_countInto_60 (by decide) rfl rfl ?_
        refine jj_iinc (pc2 := 65) hC (x5 + 1) [(5, .int (x5 + 1)), (4, .int y7), (0, .ref (ad 10)), (1, .ref (ad 54)), (2, .int x2), (3, .int x3)] dX1_countInto_62 5 rfl rfl (by decide) rfl rfl ?_
        refine jj_goto hC 30 dX1_countInto_65 (by decide) ?_
        exact jj_sub (lv2 := [(0, .ref (ad 10)), (1, .ref (ad 54)), (2, .int x2), (3, .int x3), (4, .int y7), (5, .int (x5 + 1))]) [2, 3, 4, 5, 1, 0] rfl (ih y7 (x5 + 1) hV)
set_option maxHeartbeats 4000000 in
set_option maxRecDepth 100000 in
theorem ac_X1_countInto_ways_11 {p : Program} {l : Launch} {e : Env} {s : State} {m : MethodId} {args : Array Value} {below : List Frame} {meth : Method} {c : Code} {D : va_G} {cs : Nat → ClassId} {Y X : va_W} {ad : Nat → Nat} {g0 : cm_M} (hC : JC p s m args meth c D vwCl (va_A (wc_d Y X cs ad g0) s.heap.size) 6 cX1_countInto none wsX1_countInto RX1 (jt_tys cs)) (x2 : Int32) (Post : cm_M → Prop) : ∀ (f : Nat) (x3 : Int32) (g : cm_M), vc_X1_countInto_11 60 x2 Post f x3 g → JJ (wc_d Y X cs ad) p l e rm_X1_countInto s m args below meth c D vwCl (va_A (wc_d Y X cs ad g0) s.heap.size) 6 0 0 (MQ below (jj_QV (wc_d Y X cs ad) D vwCl (jt_tys cs) g0 s.heap.size Post) args s 0 0 (va_A (wc_d Y X cs ad g0) s.heap.size)) 11 [(0, .ref (ad 10)), (1, .ref (ad 54)), (2, .int x2), (3, .int x3)] [] g := by
  intro f
  induction f with
  | zero => intro x3 g hV; exact hV.elim
  | succ f ih =>
    intro x3 g hV
    rw [vc_X1_countInto_11] at hV
    refine jj_iload_n (pc2 := 12) hC dX1_countInto_11 rfl 3 rfl rfl ?_
    refine jj_if_lt (pc2 := 15) hC 92 dX1_countInto_12 (by decide) rfl (fun h2 => ?_) (fun h2 => ?_)
    · have hV := hV.1 h2
      exact jj_vret hC dX1_countInto_92 hV
    · have hV := hV.2 h2
      refine jj_iload_n (pc2 := 16) hC dX1_countInto_15 rfl 3 rfl rfl ?_
      refine jj_iload_n (pc2 := 17) hC dX1_countInto_16 rfl 2 rfl rfl ?_
      refine jj_icmp_ne (pc2 := 20) hC 24 dX1_countInto_17 (by decide) rfl (fun h3 => ?_) (fun h3 => ?_)
      · have hV := hV.1 h3
        refine jj_iconst (pc2 := 25) hC 0 dX1_countInto_24 (by decide) rfl ?_
        refine jj_istore (pc2 := 27) hC [(4, .int 0), (0, .ref (ad 10)), (1, .ref (ad 54)), (2, .int x2), (3, .int x3)] dX1_countInto_25 (by decide) rfl rfl ?_
        refine jj_iconst (pc2 := 28) hC 0 dX1_countInto_27 (by decide) rfl ?_
        refine jj_istore (pc2 := 30) hC [(5, .int 0), (4, .int 0), (0, .ref (ad 10)), (1, .ref (ad 54)), (2, .int x2), (3, .int x3)] dX1_countInto_28 (by decide) rfl rfl ?_
        obtain ⟨n12, hV⟩ := hV
        refine jj_sub (lv2 := [(0, .ref (ad 10)), (1, .ref (ad 54)), (2, .int x2), (3, .int x3), (4, .int 0), (5, .int 0)]) [2, 3, 4, 5, 1, 0] rfl (ac_X1_countInto_ways_30 hC x2 x3 g Post _ (fun y8 hV => ?_) n12 0 0 hV)
        refine jj_aload_n (pc2 := 69) hC dX1_countInto_68 rfl 1 rfl rfl ?_
        refine jj_iload_n (pc2 := 70) hC dX1_countInto_69 rfl 3 rfl rfl ?_
        refine jj_aload_n (pc2 := 71) hC dX1_countInto_70 rfl 0 rfl rfl ?_
        refine cg_V_stands (pc2 := 74) hC hi_X1_countInto_X1 lk_X1_countInto_2 dX1_countInto_71 rfl ?_
        refine jj_iload_n (pc2 := 75) hC dX1_countInto_74 rfl 3 rfl rfl ?_
        refine cl_V_stands (pc2 := 76) hC hV.1 dX1_countInto_75 rfl ?_
        have hV := hV.2
        refine jj_if_eq (pc2 := 79) hC 84 dX1_countInto_76 (by decide) rfl (fun h9 => ?_) (fun h9 => ?_)
        · have hV := hV.1 h9
          refine jj_iconst (pc2 := 85) hC 0 dX1_countInto_84 (by decide) rfl ?_
          refine ct_V_ways (pc2 := 86) hC hV.1 dX1_countInto_85 rfl (fun g10 eg10 => ?_)
          have hV := hV.2 g10 eg10
          refine jj_iinc (pc2 := 89) hC (x3 + (-1)) [(3, .int (x3 + (-1))), (0, .ref (ad 10)), (1, .ref (ad 54)), (2, .int x2), (4, .int y8)] dX1_countInto_86 3 rfl rfl (by decide) rfl rfl ?_
          refine jj_goto hC 11 dX1_countInto_89 (by decide) ?_
          exact jj_sub (lv2 := [(0, .ref (ad 10)), (1, .ref (ad 54)), (2, .int x2), (3, .int (x3 + (-1)))]) [1, 2, 3, 0] rfl (ih (x3 + (-1)) g10 hV)
        · have hV := hV.2 h9
          refine jj_iload (pc2 := 81) hC dX1_countInto_79 4 rfl rfl ?_
          refine jj_goto hC 85 dX1_countInto_81 (by decide) ?_
          refine ct_V_ways (pc2 := 86) hC hV.1 dX1_countInto_85 rfl (fun g11 eg11 => ?_)
          have hV := hV.2 g11 eg11
          refine jj_iinc (pc2 := 89) hC (x3 + (-1)) [(3, .int (x3 + (-1))), (0, .ref (ad 10)), (1, .ref (ad 54)), (2, .int x2), (4, .int y8)] dX1_countInto_86 3 rfl rfl (by decide) rfl rfl ?_
          refine jj_goto hC 11 dX1_countInto_89 (by decide) ?_
          exact jj_sub (lv2 := [(0, .ref (ad 10)), (1, .ref (ad 54)), (2, .int x2), (3, .int (x3 + (-1)))]) [1, 2, 3, 0] rfl (ih (x3 + (-1)) g11 hV)
      · have hV := hV.2 h3
        refine jj_iconst (pc2 := 21) hC 1 dX1_countInto_20 (by decide) rfl ?_
        refine jj_goto hC 25 dX1_countInto_21 (by decide) ?_
        refine jj_istore (pc2 := 27) hC [(4, .int 1), (0, .ref (ad 10)), (1, .ref (ad 54)), (2, .int x2), (3, .int x3)] dX1_countInto_25 (by decide) rfl rfl ?_
        refine jj_iconst (pc2 := 28) hC 0 dX1_countInto_27 (by decide) rfl ?_
        refine jj_istore (pc2 := 30) hC [(5, .int 0), (4, .int 1), (0, .ref (ad 10)), (1, .ref (ad 54)), (2, .int x2), (3, .int x3)] dX1_countInto_28 (by decide) rfl rfl ?_
        obtain ⟨n17, hV⟩ := hV
        refine jj_sub (lv2 := [(0, .ref (ad 10)), (1, .ref (ad 54)), (2, .int x2), (3, .int x3), (4, .int 1), (5, .int 0)]) [2, 3, 4, 5, 1, 0] rfl (ac_X1_countInto_ways_30 hC x2 x3 g Post _ (fun y13 hV => ?_) n17 1 0 hV)
        refine jj_aload_n (pc2 := 69) hC dX1_countInto_68 rfl 1 rfl rfl ?_
        refine jj_iload_n (pc2 := 70) hC dX1_countInto_69 rfl 3 rfl rfl ?_
        refine jj_aload_n (pc2 := 71) hC dX1_countInto_70 rfl 0 rfl rfl ?_
        refine cg_V_stands (pc2 := 74) hC hi_X1_countInto_X1 lk_X1_countInto_2 dX1_countInto_71 rfl ?_
        refine jj_iload_n (pc2 := 75) hC dX1_countInto_74 rfl 3 rfl rfl ?_
        refine cl_V_stands (pc2 := 76) hC hV.1 dX1_countInto_75 rfl ?_
        have hV := hV.2
        refine jj_if_eq (pc2 := 79) hC 84 dX1_countInto_76 (by decide) rfl (fun h14 => ?_) (fun h14 => ?_)
        · have hV := hV.1 h14
          refine jj_iconst (pc2 := 85) hC 0 dX1_countInto_84 (by decide) rfl ?_
          refine ct_V_ways (pc2 := 86) hC hV.1 dX1_countInto_85 rfl (fun g15 eg15 => ?_)
          have hV := hV.2 g15 eg15
          refine jj_iinc (pc2 := 89) hC (x3 + (-1)) [(3, .int (x3 + (-1))), (0, .ref (ad 10)), (1, .ref (ad 54)), (2, .int x2), (4, .int y13)] dX1_countInto_86 3 rfl rfl (by decide) rfl rfl ?_
          refine jj_goto hC 11 dX1_countInto_89 (by decide) ?_
          exact jj_sub (lv2 := [(0, .ref (ad 10)), (1, .ref (ad 54)), (2, .int x2), (3, .int (x3 + (-1)))]) [1, 2, 3, 0] rfl (ih (x3 + (-1)) g15 hV)
        · have hV := hV.2 h14
          refine jj_iload (pc2 := 81) hC dX1_countInto_79 4 rfl rfl ?_
          refine jj_goto hC 85 dX1_countInto_81 (by decide) ?_
          refine ct_V_ways (pc2 := 86) hC hV.1 dX1_countInto_85 rfl (fun g16 eg16 => ?_)
          have hV := hV.2 g16 eg16
          refine jj_iinc (pc2 := 89) hC (x3 + (-1)) [(3, .int (x3 + (-1))), (0, .ref (ad 10)), (1, .ref (ad 54)), (2, .int x2), (4, .int y13)] dX1_countInto_86 3 rfl rfl (by decide) rfl rfl ?_
          refine jj_goto hC 11 dX1_countInto_89 (by decide) ?_
          exact jj_sub (lv2 := [(0, .ref (ad 10)), (1, .ref (ad 54)), (2, .int x2), (3, .int (x3 + (-1)))]) [1, 2, 3, 0] rfl (ih (x3 + (-1)) g16 hV)
set_option maxHeartbeats 4000000 in
set_option maxRecDepth 100000 in
theorem kc_X1_countInto_ways (l : Launch) (D : va_G) (cs : Nat → ClassId) (Y X : va_W) (ad : Nat → Nat) (g0 : cm_M) (Post : cm_M → Prop) (hV : vc_X1_countInto 60 g0 Post) : JV (wc_d Y X cs ad) D vwCl (jt_tys cs) l yX1_countInto wsX1_countInto rm_X1_countInto 0 0 [.ref (ad 10), .ref (ad 54)] g0 Post := by
  refine jj_metV (cc := cX1_countInto) (nL := 6) (ret := none) (by decide) rfl (Nat.le_of_ble_eq_true rfl) [(0, .ref (ad 10)), (1, .ref (ad 54))] rfl ?_
  intro p e s m args below meth c hC hnm
  rw [vc_X1_countInto] at hV
  refine jj_iconst (pc2 := 1) hC 1 dX1_countInto_0 (by decide) rfl ?_
  refine jj_aload_n (pc2 := 2) hC dX1_countInto_1 rfl 0 rfl rfl ?_
  refine cg_V_size (pc2 := 5) hC hi_X1_countInto_X1 lk_X1_countInto_1 dX1_countInto_2 rfl ?_
  refine jj_ishl (pc2 := 6) hC dX1_countInto_5 rfl ?_
  refine jj_iconst (pc2 := 7) hC 1 dX1_countInto_6 (by decide) rfl ?_
  refine jj_isub (pc2 := 8) hC dX1_countInto_7 rfl ?_
  refine jj_topi (fun y1 ey1 => ?_)
  have hV := hV y1 ey1
  refine jj_istore_n (pc2 := 9) hC [(2, .int y1), (0, .ref (ad 10)), (1, .ref (ad 54))] dX1_countInto_8 rfl (by decide) rfl rfl ?_
  refine jj_iload_n (pc2 := 10) hC dX1_countInto_9 rfl 0 rfl rfl ?_
  refine jj_istore_n (pc2 := 11) hC [(3, .int y1), (2, .int y1), (0, .ref (ad 10)), (1, .ref (ad 54))] dX1_countInto_10 rfl (by decide) rfl rfl ?_
  obtain ⟨n18, hV⟩ := hV
  refine jj_sub (lv2 := [(0, .ref (ad 10)), (1, .ref (ad 54)), (2, .int y1), (3, .int y1)]) [2, 3, 1, 0] rfl (ac_X1_countInto_ways_11 hC y1 Post n18 y1 g0 hV)
set_option maxHeartbeats 4000000 in
set_option maxRecDepth 100000 in
theorem ac_X1_countInto_soundWays_30 {p : Program} {l : Launch} {e : Env} {s : State} {m : MethodId} {args : Array Value} {below : List Frame} {meth : Method} {c : Code} {D : va_G} {cs : Nat → ClassId} {Y X : va_W} {ad : Nat → Nat} {g0 : cm_M} (hC : JC p s m args meth c D vwCl (va_A (wc_d Y X cs ad g0) s.heap.size) 6 cX1_countInto none wsX1_countInto RX1 (jt_tys cs)) (x2 : Int32) (x3 : Int32) (g : cm_M) (Post : cm_M → Prop) (K68 : Int32 → Prop) (hK68 : ∀ (z4 : Int32) , K68 z4 → JJ (wc_d Y X cs ad) p l e rm_X1_countInto s m args below meth c D vwCl (va_A (wc_d Y X cs ad g0) s.heap.size) 6 0 0 (MQ below (jj_QV (wc_d Y X cs ad) D vwCl (jt_tys cs) g0 s.heap.size Post) args s 0 0 (va_A (wc_d Y X cs ad g0) s.heap.size)) 68 [(0, .ref (ad 10)), (1, .ref (ad 55)), (2, .int x2), (3, .int x3), (4, .int z4)] [] g) : ∀ (f : Nat) (x4 : Int32) (x5 : Int32), vc_X1_countInto_30 61 x2 x3 g K68 Post f x4 x5 → JJ (wc_d Y X cs ad) p l e rm_X1_countInto s m args below meth c D vwCl (va_A (wc_d Y X cs ad g0) s.heap.size) 6 0 0 (MQ below (jj_QV (wc_d Y X cs ad) D vwCl (jt_tys cs) g0 s.heap.size Post) args s 0 0 (va_A (wc_d Y X cs ad g0) s.heap.size)) 30 [(0, .ref (ad 10)), (1, .ref (ad 55)), (2, .int x2), (3, .int x3), (4, .int x4), (5, .int x5)] [] g := by
  intro f
  induction f with
  | zero => intro x4 x5 hV; exact hV.elim
  | succ f ih =>
    intro x4 x5 hV
    rw [vc_X1_countInto_30] at hV
    refine jj_iload (pc2 := 32) hC dX1_countInto_30 5 rfl rfl ?_
    refine jj_aload_n (pc2 := 33) hC dX1_countInto_32 rfl 0 rfl rfl ?_
    refine cg_V_size (pc2 := 36) hC hi_X1_countInto_X1 lk_X1_countInto_1 dX1_countInto_33 rfl ?_
    refine jj_icmp_ge (pc2 := 39) hC 68 dX1_countInto_36 (by decide) rfl (fun h4 => ?_) (fun h4 => ?_)
    · have hV := hV.1 h4
      exact jj_sub (lv2 := [(0, .ref (ad 10)), (1, .ref (ad 55)), (2, .int x2), (3, .int x3), (4, .int x4)]) [0, 1, 2, 3, 4] rfl (hK68 x4 hV)
    · have hV := hV.2 h4
      refine jj_aload_n (pc2 := 40) hC dX1_countInto_39 rfl 0 rfl rfl ?_
      refine jj_iload (pc2 := 42) hC dX1_countInto_40 5 rfl rfl ?_
      refine jj_iload_n (pc2 := 43) hC dX1_countInto_42 rfl 3 rfl rfl ?_
      refine jj_cVIp (pc2 := 46) (wd := wc_d Y X cs ad) (g := g) (rest := []) hC (Y.length + 10) (jx_at (V := wc_W cs ad g) rfl) rfl rfl (kc_X1_canCome l D cs Y X ad x5 x3 g _ hV) (cwV 2 hC.1.2.2.2.2 gX1_countInto_X1_canCome rfl rfl rfl (by decide +kernel) ⟨by decide, by decide⟩) rfl (Nat.le_of_ble_eq_true rfl) _ rfl dX1_countInto_43 ⟨Nat.zero_le _, Nat.zero_le _⟩ rfl (fun r5 hV => ?_)
      refine jj_if_eq (pc2 := 49) hC 62 dX1_countInto_46 (by decide) rfl (fun h6 => ?_) (fun h6 => ?_)
      · have hV := hV.1 h6
        refine jj_iinc (pc2 := 65) hC (x5 + 1) [(5, .int (x5 + 1)), (0, .ref (ad 10)), (1, .ref (ad 55)), (2, .int x2), (3, .int x3), (4, .int x4)] dX1_countInto_62 5 rfl rfl (by decide) rfl rfl ?_
        refine jj_goto hC 30 dX1_countInto_65 (by decide) ?_
        exact jj_sub (lv2 := [(0, .ref (ad 10)), (1, .ref (ad 55)), (2, .int x2), (3, .int x3), (4, .int x4), (5, .int (x5 + 1))]) [1, 2, 3, 4, 5, 0] rfl (ih x4 (x5 + 1) hV)
      · have hV := hV.2 h6
        refine jj_iload (pc2 := 51) hC dX1_countInto_49 4 rfl rfl ?_
        refine jj_aload_n (pc2 := 52) hC dX1_countInto_51 rfl 1 rfl rfl ?_
        refine jj_iload_n (pc2 := 53) hC dX1_countInto_52 rfl 3 rfl rfl ?_
        refine jj_iconst (pc2 := 54) hC 1 dX1_countInto_53 (by decide) rfl ?_
        refine jj_iload (pc2 := 56) hC dX1_countInto_54 5 rfl rfl ?_
        refine jj_ishl (pc2 := 57) hC dX1_countInto_56 rfl ?_
        refine jj_ior (pc2 := 58) hC dX1_countInto_57 rfl ?_
        refine cl_V_soundWays (pc2 := 59) hC hV.1 dX1_countInto_58 rfl ?_
        have hV := hV.2
        refine jj_iadd (pc2 := 60) hC dX1_countInto_59 rfl ?_
        refine jj_topi (fun y7 ey7 => ?_)
        have hV := hV y7 ey7
        refine jj_istore (pc2 := 62) hC [(4, .int y7), (0, .ref (ad 10)), (1, .ref (ad 55)), (2, .int x2), (3, .int x3), (5, .int x5)] dX1_countInto_60 (by decide) rfl rfl ?_
        refine jj_iinc (pc2 := 65) hC (x5 + 1) [(5, .int (x5 + 1)), (4, .int y7), (0, .ref (ad 10)), (1, .ref (ad 55)), (2, .int x2), (3, .int x3)] dX1_countInto_62 5 rfl rfl (by decide) rfl rfl ?_
        refine jj_goto hC 30 dX1_countInto_65 (by decide) ?_
        exact jj_sub (lv2 := [(0, .ref (ad 10)), (1, .ref (ad 55)), (2, .int x2), (3, .int x3), (4, .int y7), (5, .int (x5 + 1))]) [2, 3, 4, 5, 1, 0] rfl (ih y7 (x5 + 1) hV)
set_option maxHeartbeats 4000000 in
set_option maxRecDepth 100000 in
theorem ac_X1_countInto_soundWays_11 {p : Program} {l : Launch} {e : Env} {s : State} {m : MethodId} {args : Array Value} {below : List Frame} {meth : Method} {c : Code} {D : va_G} {cs : Nat → ClassId} {Y X : va_W} {ad : Nat → Nat} {g0 : cm_M} (hC : JC p s m args meth c D vwCl (va_A (wc_d Y X cs ad g0) s.heap.size) 6 cX1_countInto none wsX1_countInto RX1 (jt_tys cs)) (x2 : Int32) (Post : cm_M → Prop) : ∀ (f : Nat) (x3 : Int32) (g : cm_M), vc_X1_countInto_11 61 x2 Post f x3 g → JJ (wc_d Y X cs ad) p l e rm_X1_countInto s m args below meth c D vwCl (va_A (wc_d Y X cs ad g0) s.heap.size) 6 0 0 (MQ below (jj_QV (wc_d Y X cs ad) D vwCl (jt_tys cs) g0 s.heap.size Post) args s 0 0 (va_A (wc_d Y X cs ad g0) s.heap.size)) 11 [(0, .ref (ad 10)), (1, .ref (ad 55)), (2, .int x2), (3, .int x3)] [] g := by
  intro f
  induction f with
  | zero => intro x3 g hV; exact hV.elim
  | succ f ih =>
    intro x3 g hV
    rw [vc_X1_countInto_11] at hV
    refine jj_iload_n (pc2 := 12) hC dX1_countInto_11 rfl 3 rfl rfl ?_
    refine jj_if_lt (pc2 := 15) hC 92 dX1_countInto_12 (by decide) rfl (fun h2 => ?_) (fun h2 => ?_)
    · have hV := hV.1 h2
      exact jj_vret hC dX1_countInto_92 hV
    · have hV := hV.2 h2
      refine jj_iload_n (pc2 := 16) hC dX1_countInto_15 rfl 3 rfl rfl ?_
      refine jj_iload_n (pc2 := 17) hC dX1_countInto_16 rfl 2 rfl rfl ?_
      refine jj_icmp_ne (pc2 := 20) hC 24 dX1_countInto_17 (by decide) rfl (fun h3 => ?_) (fun h3 => ?_)
      · have hV := hV.1 h3
        refine jj_iconst (pc2 := 25) hC 0 dX1_countInto_24 (by decide) rfl ?_
        refine jj_istore (pc2 := 27) hC [(4, .int 0), (0, .ref (ad 10)), (1, .ref (ad 55)), (2, .int x2), (3, .int x3)] dX1_countInto_25 (by decide) rfl rfl ?_
        refine jj_iconst (pc2 := 28) hC 0 dX1_countInto_27 (by decide) rfl ?_
        refine jj_istore (pc2 := 30) hC [(5, .int 0), (4, .int 0), (0, .ref (ad 10)), (1, .ref (ad 55)), (2, .int x2), (3, .int x3)] dX1_countInto_28 (by decide) rfl rfl ?_
        obtain ⟨n12, hV⟩ := hV
        refine jj_sub (lv2 := [(0, .ref (ad 10)), (1, .ref (ad 55)), (2, .int x2), (3, .int x3), (4, .int 0), (5, .int 0)]) [2, 3, 4, 5, 1, 0] rfl (ac_X1_countInto_soundWays_30 hC x2 x3 g Post _ (fun y8 hV => ?_) n12 0 0 hV)
        refine jj_aload_n (pc2 := 69) hC dX1_countInto_68 rfl 1 rfl rfl ?_
        refine jj_iload_n (pc2 := 70) hC dX1_countInto_69 rfl 3 rfl rfl ?_
        refine jj_aload_n (pc2 := 71) hC dX1_countInto_70 rfl 0 rfl rfl ?_
        refine cg_V_stands (pc2 := 74) hC hi_X1_countInto_X1 lk_X1_countInto_2 dX1_countInto_71 rfl ?_
        refine jj_iload_n (pc2 := 75) hC dX1_countInto_74 rfl 3 rfl rfl ?_
        refine cl_V_stands (pc2 := 76) hC hV.1 dX1_countInto_75 rfl ?_
        have hV := hV.2
        refine jj_if_eq (pc2 := 79) hC 84 dX1_countInto_76 (by decide) rfl (fun h9 => ?_) (fun h9 => ?_)
        · have hV := hV.1 h9
          refine jj_iconst (pc2 := 85) hC 0 dX1_countInto_84 (by decide) rfl ?_
          refine ct_V_soundWays (pc2 := 86) hC hV.1 dX1_countInto_85 rfl (fun g10 eg10 => ?_)
          have hV := hV.2 g10 eg10
          refine jj_iinc (pc2 := 89) hC (x3 + (-1)) [(3, .int (x3 + (-1))), (0, .ref (ad 10)), (1, .ref (ad 55)), (2, .int x2), (4, .int y8)] dX1_countInto_86 3 rfl rfl (by decide) rfl rfl ?_
          refine jj_goto hC 11 dX1_countInto_89 (by decide) ?_
          exact jj_sub (lv2 := [(0, .ref (ad 10)), (1, .ref (ad 55)), (2, .int x2), (3, .int (x3 + (-1)))]) [1, 2, 3, 0] rfl (ih (x3 + (-1)) g10 hV)
        · have hV := hV.2 h9
          refine jj_iload (pc2 := 81) hC dX1_countInto_79 4 rfl rfl ?_
          refine jj_goto hC 85 dX1_countInto_81 (by decide) ?_
          refine ct_V_soundWays (pc2 := 86) hC hV.1 dX1_countInto_85 rfl (fun g11 eg11 => ?_)
          have hV := hV.2 g11 eg11
          refine jj_iinc (pc2 := 89) hC (x3 + (-1)) [(3, .int (x3 + (-1))), (0, .ref (ad 10)), (1, .ref (ad 55)), (2, .int x2), (4, .int y8)] dX1_countInto_86 3 rfl rfl (by decide) rfl rfl ?_
          refine jj_goto hC 11 dX1_countInto_89 (by decide) ?_
          exact jj_sub (lv2 := [(0, .ref (ad 10)), (1, .ref (ad 55)), (2, .int x2), (3, .int (x3 + (-1)))]) [1, 2, 3, 0] rfl (ih (x3 + (-1)) g11 hV)
      · have hV := hV.2 h3
        refine jj_iconst (pc2 := 21) hC 1 dX1_countInto_20 (by decide) rfl ?_
        refine jj_goto hC 25 dX1_countInto_21 (by decide) ?_
        refine jj_istore (pc2 := 27) hC [(4, .int 1), (0, .ref (ad 10)), (1, .ref (ad 55)), (2, .int x2), (3, .int x3)] dX1_countInto_25 (by decide) rfl rfl ?_
        refine jj_iconst (pc2 := 28) hC 0 dX1_countInto_27 (by decide) rfl ?_
        refine jj_istore (pc2 := 30) hC [(5, .int 0), (4, .int 1), (0, .ref (ad 10)), (1, .ref (ad 55)), (2, .int x2), (3, .int x3)] dX1_countInto_28 (by decide) rfl rfl ?_
        obtain ⟨n17, hV⟩ := hV
        refine jj_sub (lv2 := [(0, .ref (ad 10)), (1, .ref (ad 55)), (2, .int x2), (3, .int x3), (4, .int 1), (5, .int 0)]) [2, 3, 4, 5, 1, 0] rfl (ac_X1_countInto_soundWays_30 hC x2 x3 g Post _ (fun y13 hV => ?_) n17 1 0 hV)
        refine jj_aload_n (pc2 := 69) hC dX1_countInto_68 rfl 1 rfl rfl ?_
        refine jj_iload_n (pc2 := 70) hC dX1_countInto_69 rfl 3 rfl rfl ?_
        refine jj_aload_n (pc2 := 71) hC dX1_countInto_70 rfl 0 rfl rfl ?_
        refine cg_V_stands (pc2 := 74) hC hi_X1_countInto_X1 lk_X1_countInto_2 dX1_countInto_71 rfl ?_
        refine jj_iload_n (pc2 := 75) hC dX1_countInto_74 rfl 3 rfl rfl ?_
        refine cl_V_stands (pc2 := 76) hC hV.1 dX1_countInto_75 rfl ?_
        have hV := hV.2
        refine jj_if_eq (pc2 := 79) hC 84 dX1_countInto_76 (by decide) rfl (fun h14 => ?_) (fun h14 => ?_)
        · have hV := hV.1 h14
          refine jj_iconst (pc2 := 85) hC 0 dX1_countInto_84 (by decide) rfl ?_
          refine ct_V_soundWays (pc2 := 86) hC hV.1 dX1_countInto_85 rfl (fun g15 eg15 => ?_)
          have hV := hV.2 g15 eg15
          refine jj_iinc (pc2 := 89) hC (x3 + (-1)) [(3, .int (x3 + (-1))), (0, .ref (ad 10)), (1, .ref (ad 55)), (2, .int x2), (4, .int y13)] dX1_countInto_86 3 rfl rfl (by decide) rfl rfl ?_
          refine jj_goto hC 11 dX1_countInto_89 (by decide) ?_
          exact jj_sub (lv2 := [(0, .ref (ad 10)), (1, .ref (ad 55)), (2, .int x2), (3, .int (x3 + (-1)))]) [1, 2, 3, 0] rfl (ih (x3 + (-1)) g15 hV)
        · have hV := hV.2 h14
          refine jj_iload (pc2 := 81) hC dX1_countInto_79 4 rfl rfl ?_
          refine jj_goto hC 85 dX1_countInto_81 (by decide) ?_
          refine ct_V_soundWays (pc2 := 86) hC hV.1 dX1_countInto_85 rfl (fun g16 eg16 => ?_)
          have hV := hV.2 g16 eg16
          refine jj_iinc (pc2 := 89) hC (x3 + (-1)) [(3, .int (x3 + (-1))), (0, .ref (ad 10)), (1, .ref (ad 55)), (2, .int x2), (4, .int y13)] dX1_countInto_86 3 rfl rfl (by decide) rfl rfl ?_
          refine jj_goto hC 11 dX1_countInto_89 (by decide) ?_
          exact jj_sub (lv2 := [(0, .ref (ad 10)), (1, .ref (ad 55)), (2, .int x2), (3, .int (x3 + (-1)))]) [1, 2, 3, 0] rfl (ih (x3 + (-1)) g16 hV)
set_option maxHeartbeats 4000000 in
set_option maxRecDepth 100000 in
theorem kc_X1_countInto_soundWays (l : Launch) (D : va_G) (cs : Nat → ClassId) (Y X : va_W) (ad : Nat → Nat) (g0 : cm_M) (Post : cm_M → Prop) (hV : vc_X1_countInto 61 g0 Post) : JV (wc_d Y X cs ad) D vwCl (jt_tys cs) l yX1_countInto wsX1_countInto rm_X1_countInto 0 0 [.ref (ad 10), .ref (ad 55)] g0 Post := by
  refine jj_metV (cc := cX1_countInto) (nL := 6) (ret := none) (by decide) rfl (Nat.le_of_ble_eq_true rfl) [(0, .ref (ad 10)), (1, .ref (ad 55))] rfl ?_
  intro p e s m args below meth c hC hnm
  rw [vc_X1_countInto] at hV
  refine jj_iconst (pc2 := 1) hC 1 dX1_countInto_0 (by decide) rfl ?_
  refine jj_aload_n (pc2 := 2) hC dX1_countInto_1 rfl 0 rfl rfl ?_
  refine cg_V_size (pc2 := 5) hC hi_X1_countInto_X1 lk_X1_countInto_1 dX1_countInto_2 rfl ?_
  refine jj_ishl (pc2 := 6) hC dX1_countInto_5 rfl ?_
  refine jj_iconst (pc2 := 7) hC 1 dX1_countInto_6 (by decide) rfl ?_
  refine jj_isub (pc2 := 8) hC dX1_countInto_7 rfl ?_
  refine jj_topi (fun y1 ey1 => ?_)
  have hV := hV y1 ey1
  refine jj_istore_n (pc2 := 9) hC [(2, .int y1), (0, .ref (ad 10)), (1, .ref (ad 55))] dX1_countInto_8 rfl (by decide) rfl rfl ?_
  refine jj_iload_n (pc2 := 10) hC dX1_countInto_9 rfl 0 rfl rfl ?_
  refine jj_istore_n (pc2 := 11) hC [(3, .int y1), (2, .int y1), (0, .ref (ad 10)), (1, .ref (ad 55))] dX1_countInto_10 rfl (by decide) rfl rfl ?_
  obtain ⟨n18, hV⟩ := hV
  refine jj_sub (lv2 := [(0, .ref (ad 10)), (1, .ref (ad 55)), (2, .int y1), (3, .int y1)]) [2, 3, 1, 0] rfl (ac_X1_countInto_soundWays_11 hC y1 Post n18 y1 g0 hV)
theorem hi_X1_gather_X1 : ∀ w ∈ u_ws RX1 TX1 8, w ∈ wsX1_gather := fun _ h => List.mem_cons_of_mem _ (List.mem_append_right _ h)
theorem lk_X1_gather_9 : Cond.fieldLink RX1 25 "PartedHouse$Arrivals" "cells" "[I" ∈ wsX1_gather := List.mem_of_getElem? (i := 9) rfl
theorem lk_X1_gather_12 : Cond.fieldLink RX1 31 "PartedHouse$Arrivals" "needs" "[I" ∈ wsX1_gather := List.mem_of_getElem? (i := 12) rfl
theorem hi_X1_gather_X6 : ∀ w ∈ u_ws RX6 TX6 5, w ∈ wsX1_gather := fun _ h => List.mem_cons_of_mem _ (List.mem_append_left _ (List.mem_append_right _ h))
theorem lk_X1_gather_11 : Cond.fieldLink RX1 56 "PartedHouse$Letters" "says" "[I" ∈ wsX1_gather := List.mem_of_getElem? (i := 11) rfl
theorem lk_X1_gather_10 : Cond.fieldLink RX1 28 "PartedHouse$Arrivals" "says" "[I" ∈ wsX1_gather := List.mem_of_getElem? (i := 10) rfl
theorem lk_X1_gather_8 : Cond.fieldLink RX1 22 "PartedHouse$Arrivals" "numbers" "[I" ∈ wsX1_gather := List.mem_of_getElem? (i := 8) rfl
theorem lk_X1_gather_7 : Cond.fieldLink RX1 49 "PartedHouse$Letters" "waiting" "[I" ∈ wsX1_gather := List.mem_of_getElem? (i := 7) rfl
theorem lk_X1_gather_6 : Cond.fieldLink RX1 46 "PartedHouse$Arrivals" "size" "I" ∈ wsX1_gather := List.mem_of_getElem? (i := 6) rfl
theorem lk_X1_gather_13 : Cond.fieldLink RX1 18 "PartedHouse$Arrivals" "stands" "[Z" ∈ wsX1_gather := List.mem_of_getElem? (i := 13) rfl
theorem lk_X1_gather_14 : Cond.fieldLink RX1 9 "PartedHouse$Arrivals" "ways" "[I" ∈ wsX1_gather := List.mem_of_getElem? (i := 14) rfl
theorem lk_X1_gather_2 : Cond.methodLink RX1 40 Lib.Math.min.name ∈ wsX1_gather := List.mem_of_getElem? (i := 2) rfl
theorem lk_X1_gather_3 : Cond.static Lib.Math.min.name ∈ wsX1_gather := List.mem_of_getElem? (i := 3) rfl
theorem lk_X1_gather_4 : Cond.initialized "java/lang/Math" ∈ wsX1_gather := List.mem_of_getElem? (i := 4) rfl
theorem lk_X1_gather_5 : Cond.code Lib.Math.min.name Lib.Math.min.code 2 (some .int) ∈ wsX1_gather := List.mem_of_getElem? (i := 5) rfl
theorem lk_X1_gather_1 : Cond.fieldLink RX1 34 "PartedHouse$Letters" "waits" "I" ∈ wsX1_gather := List.mem_of_getElem? (i := 1) rfl
abbrev rm_X1_gather : Room := { frames := 2, cells := 0, slots := 0, locals := 47 }
def vc_X1_gather_70 (x2 : Int32) (K115 : cm_M → Prop) (Post : cm_M → Prop) : Nat → Int32 → cm_M → Prop
  | 0, _, _ => False
  | f + 1, x4, g => ((x2 ≤ x4) → (K115 g)) ∧ ((¬ x2 ≤ x4) → ((vp_in x2 6) ∧ ((vp_in x4 6) ∧ ((vp_in x2 6) ∧ (((¬ (g.2.2 64 x4.toNatClampNeg) = (g.2.2 64 x2.toNatClampNeg)) → ((vp_in x2 6) ∧ (∀ g11 : cm_M, g11 = cm_a g 66 x2 ((g.2.2 66 x2.toNatClampNeg) ||| 0) → (vc_X1_gather_70 x2 K115 Post f (x4 + 1) g11)))) ∧ (((g.2.2 64 x4.toNatClampNeg) = (g.2.2 64 x2.toNatClampNeg)) → ((vp_in x2 6) ∧ (∀ g12 : cm_M, g12 = cm_a g 66 x2 ((g.2.2 66 x2.toNatClampNeg) ||| ((1 : Int32) <<< (x4 &&& 31))) → (vc_X1_gather_70 x2 K115 Post f (x4 + 1) g12)))))))))
def vc_X1_gather_15 (K121 : cm_M → Prop) (Post : cm_M → Prop) : Nat → Int32 → cm_M → Prop
  | 0, _, _ => False
  | f + 1, x2, g => (((g.2.2 67 0) ≤ x2) → (K121 g)) ∧ ((¬ (g.2.2 67 0) ≤ x2) → ((vp_in x2 40) ∧ (∀ y3 : Int32, y3 = g.2.2 39 x2.toNatClampNeg → ((vp_in x2 6) ∧ (∀ g4 : cm_M, g4 = cm_a g 63 x2 y3 → (vc_X6_cellOf y3 g4 (fun (r5 : Int32) => (vp_in x2 6) ∧ (∀ g6 : cm_M, g6 = cm_a g4 64 x2 r5 → ((vp_in y3 (g6.1.2.1 3)) ∧ ((vp_in x2 6) ∧ (∀ g7 : cm_M, g7 = cm_a g6 65 x2 (g6.2.2 38 y3.toNatClampNeg) → ((vp_in x2 6) ∧ (∀ g8 : cm_M, g8 = cm_a g7 66 x2 0 → (∃ n14 : Nat, vc_X1_gather_70 x2 (fun (g13 : cm_M) => vc_X1_gather_15 K121 Post f (x2 + 1) g13) Post n14 0 g8))))))))))))))
def vc_X1_gather_123 (K146 : cm_M → Prop) (Post : cm_M → Prop) : Nat → Int32 → cm_M → Prop
  | 0, _, _ => False
  | f + 1, x2, g => ((((1 : Int32) <<< ((g.2.2 67 0) &&& 31)) ≤ x2) → (K146 g)) ∧ ((¬ ((1 : Int32) <<< ((g.2.2 67 0) &&& 31)) ≤ x2) → ((vp_in x2 64) ∧ (∀ g17 : cm_M, g17 = cm_a g 62 x2 1 → (vc_X1_gather_123 K146 Post f (x2 + 1) g17))))
def vc_X1_gather (g0 : cm_M) (Post : cm_M → Prop) : Prop := ∀ g1 : cm_M, g1 = cm_s g0 67 (if 6 < (g0.2.2 41 0) then 6 else (g0.2.2 41 0)) → (∃ n22 : Nat, vc_X1_gather_15 (fun (g15 : cm_M) => ∃ n21 : Nat, vc_X1_gather_123 (fun (g18 : cm_M) => vc_X1_countInto 60 g18 (fun (g20 : cm_M) => Post g20)) Post n21 0 g15) Post n22 0 g1)
set_option maxHeartbeats 4000000 in
set_option maxRecDepth 100000 in
theorem ac_X1_gather_70 {p : Program} {l : Launch} {e : Env} {s : State} {m : MethodId} {args : Array Value} {below : List Frame} {meth : Method} {c : Code} {D : va_G} {cs : Nat → ClassId} {Y X : va_W} {ad : Nat → Nat} {g0 : cm_M} (hC : JC p s m args meth c D vwCl (va_A (wc_d Y X cs ad g0) s.heap.size) 5 cX1_gather none wsX1_gather RX1 (jt_tys cs)) (x2 : Int32) (Post : cm_M → Prop) (K115 : cm_M → Prop) (hK115 : ∀ (g : cm_M) , K115 g → JJ (wc_d Y X cs ad) p l e rm_X1_gather s m args below meth c D vwCl (va_A (wc_d Y X cs ad g0) s.heap.size) 5 0 0 (MQ below (jj_QV (wc_d Y X cs ad) D vwCl (jt_tys cs) g0 s.heap.size Post) args s 0 0 (va_A (wc_d Y X cs ad g0) s.heap.size)) 115 [(0, .ref (ad 10)), (1, .ref (ad 5)), (2, .int x2)] [] g) : ∀ (f : Nat) (x4 : Int32) (g : cm_M), vc_X1_gather_70 x2 K115 Post f x4 g → JJ (wc_d Y X cs ad) p l e rm_X1_gather s m args below meth c D vwCl (va_A (wc_d Y X cs ad g0) s.heap.size) 5 0 0 (MQ below (jj_QV (wc_d Y X cs ad) D vwCl (jt_tys cs) g0 s.heap.size Post) args s 0 0 (va_A (wc_d Y X cs ad g0) s.heap.size)) 70 [(0, .ref (ad 10)), (1, .ref (ad 5)), (2, .int x2), (4, .int x4)] [] g := by
  intro f
  induction f with
  | zero => intro x4 g hV; exact hV.elim
  | succ f ih =>
    intro x4 g hV
    rw [vc_X1_gather_70] at hV
    refine jj_iload (pc2 := 72) hC dX1_gather_70 3 rfl rfl ?_
    refine jj_iload_n (pc2 := 73) hC dX1_gather_72 rfl 2 rfl rfl ?_
    refine jj_icmp_ge (pc2 := 76) hC 115 dX1_gather_73 (by decide) rfl (fun h9 => ?_) (fun h9 => ?_)
    · have hV := hV.1 h9
      exact jj_sub (lv2 := [(0, .ref (ad 10)), (1, .ref (ad 5)), (2, .int x2)]) [0, 1, 2] rfl (hK115 g hV)
    · have hV := hV.2 h9
      refine jj_aload_n (pc2 := 77) hC dX1_gather_76 rfl 0 rfl rfl ?_
      refine cg_V_needs (pc2 := 80) hC hi_X1_gather_X1 lk_X1_gather_12 dX1_gather_77 rfl ?_
      refine jj_iload_n (pc2 := 81) hC dX1_gather_80 rfl 2 rfl rfl ?_
      refine jj_dup2 (pc2 := 82) hC dX1_gather_81 rfl rfl rfl ?_
      refine cl_V_needs (pc2 := 83) hC hV.1 dX1_gather_82 rfl ?_
      have hV := hV.2
      refine jj_aload_n (pc2 := 84) hC dX1_gather_83 rfl 0 rfl rfl ?_
      refine cg_V_cells (pc2 := 87) hC hi_X1_gather_X1 lk_X1_gather_9 dX1_gather_84 rfl ?_
      refine jj_iload (pc2 := 89) hC dX1_gather_87 3 rfl rfl ?_
      refine cl_V_cells (pc2 := 90) hC hV.1 dX1_gather_89 rfl ?_
      have hV := hV.2
      refine jj_aload_n (pc2 := 91) hC dX1_gather_90 rfl 0 rfl rfl ?_
      refine cg_V_cells (pc2 := 94) hC hi_X1_gather_X1 lk_X1_gather_9 dX1_gather_91 rfl ?_
      refine jj_iload_n (pc2 := 95) hC dX1_gather_94 rfl 2 rfl rfl ?_
      refine cl_V_cells (pc2 := 96) hC hV.1 dX1_gather_95 rfl ?_
      have hV := hV.2
      refine jj_icmp_ne (pc2 := 99) hC 106 dX1_gather_96 (by decide) rfl (fun h10 => ?_) (fun h10 => ?_)
      · have hV := hV.1 h10
        refine jj_iconst (pc2 := 107) hC 0 dX1_gather_106 (by decide) rfl ?_
        refine jj_ior (pc2 := 108) hC dX1_gather_107 rfl ?_
        refine ct_V_needs (pc2 := 109) hC hV.1 dX1_gather_108 rfl (fun g11 eg11 => ?_)
        have hV := hV.2 g11 eg11
        refine jj_iinc (pc2 := 112) hC (x4 + 1) [(4, .int (x4 + 1)), (0, .ref (ad 10)), (1, .ref (ad 5)), (2, .int x2)] dX1_gather_109 3 rfl rfl (by decide) rfl rfl ?_
        refine jj_goto hC 70 dX1_gather_112 (by decide) ?_
        exact jj_sub (lv2 := [(0, .ref (ad 10)), (1, .ref (ad 5)), (2, .int x2), (4, .int (x4 + 1))]) [1, 2, 3, 0] rfl (ih (x4 + 1) g11 hV)
      · have hV := hV.2 h10
        refine jj_iconst (pc2 := 100) hC 1 dX1_gather_99 (by decide) rfl ?_
        refine jj_iload (pc2 := 102) hC dX1_gather_100 3 rfl rfl ?_
        refine jj_ishl (pc2 := 103) hC dX1_gather_102 rfl ?_
        refine jj_goto hC 107 dX1_gather_103 (by decide) ?_
        refine jj_ior (pc2 := 108) hC dX1_gather_107 rfl ?_
        refine ct_V_needs (pc2 := 109) hC hV.1 dX1_gather_108 rfl (fun g12 eg12 => ?_)
        have hV := hV.2 g12 eg12
        refine jj_iinc (pc2 := 112) hC (x4 + 1) [(4, .int (x4 + 1)), (0, .ref (ad 10)), (1, .ref (ad 5)), (2, .int x2)] dX1_gather_109 3 rfl rfl (by decide) rfl rfl ?_
        refine jj_goto hC 70 dX1_gather_112 (by decide) ?_
        exact jj_sub (lv2 := [(0, .ref (ad 10)), (1, .ref (ad 5)), (2, .int x2), (4, .int (x4 + 1))]) [1, 2, 3, 0] rfl (ih (x4 + 1) g12 hV)
set_option maxHeartbeats 4000000 in
set_option maxRecDepth 100000 in
theorem ac_X1_gather_15 {p : Program} {l : Launch} {e : Env} {s : State} {m : MethodId} {args : Array Value} {below : List Frame} {meth : Method} {c : Code} {D : va_G} {cs : Nat → ClassId} {Y X : va_W} {ad : Nat → Nat} {g0 : cm_M} (hC : JC p s m args meth c D vwCl (va_A (wc_d Y X cs ad g0) s.heap.size) 5 cX1_gather none wsX1_gather RX1 (jt_tys cs)) (Post : cm_M → Prop) (K121 : cm_M → Prop) (hK121 : ∀ (g : cm_M) , K121 g → JJ (wc_d Y X cs ad) p l e rm_X1_gather s m args below meth c D vwCl (va_A (wc_d Y X cs ad g0) s.heap.size) 5 0 0 (MQ below (jj_QV (wc_d Y X cs ad) D vwCl (jt_tys cs) g0 s.heap.size Post) args s 0 0 (va_A (wc_d Y X cs ad g0) s.heap.size)) 121 [(0, .ref (ad 10))] [] g) : ∀ (f : Nat) (x2 : Int32) (g : cm_M), vc_X1_gather_15 K121 Post f x2 g → JJ (wc_d Y X cs ad) p l e rm_X1_gather s m args below meth c D vwCl (va_A (wc_d Y X cs ad g0) s.heap.size) 5 0 0 (MQ below (jj_QV (wc_d Y X cs ad) D vwCl (jt_tys cs) g0 s.heap.size Post) args s 0 0 (va_A (wc_d Y X cs ad g0) s.heap.size)) 15 [(0, .ref (ad 10)), (1, .ref (ad 5)), (2, .int x2)] [] g := by
  intro f
  induction f with
  | zero => intro x2 g hV; exact hV.elim
  | succ f ih =>
    intro x2 g hV
    rw [vc_X1_gather_15] at hV
    refine jj_iload_n (pc2 := 16) hC dX1_gather_15 rfl 2 rfl rfl ?_
    refine jj_aload_n (pc2 := 17) hC dX1_gather_16 rfl 0 rfl rfl ?_
    refine cg_V_size (pc2 := 20) hC hi_X1_gather_X1 lk_X1_gather_6 dX1_gather_17 rfl ?_
    refine jj_icmp_ge (pc2 := 23) hC 121 dX1_gather_20 (by decide) rfl (fun h2 => ?_) (fun h2 => ?_)
    · have hV := hV.1 h2
      exact jj_sub (lv2 := [(0, .ref (ad 10))]) [0] rfl (hK121 g hV)
    · have hV := hV.2 h2
      refine jj_aload_n (pc2 := 24) hC dX1_gather_23 rfl 1 rfl rfl ?_
      refine cg_L_waiting (pc2 := 27) hC hi_X1_gather_X6 lk_X1_gather_7 dX1_gather_24 rfl ?_
      refine jj_iload_n (pc2 := 28) hC dX1_gather_27 rfl 2 rfl rfl ?_
      refine cl_L_waiting (pc2 := 29) hC hV.1 dX1_gather_28 rfl ?_
      have hV := hV.2
      refine jj_topi (fun y3 ey3 => ?_)
      have hV := hV y3 ey3
      refine jj_istore_n (pc2 := 30) hC [(3, .int y3), (0, .ref (ad 10)), (1, .ref (ad 5)), (2, .int x2)] dX1_gather_29 rfl (by decide) rfl rfl ?_
      refine jj_aload_n (pc2 := 31) hC dX1_gather_30 rfl 1 rfl rfl ?_
      refine cg_V_numbers (pc2 := 34) hC hi_X1_gather_X1 lk_X1_gather_8 dX1_gather_31 rfl ?_
      refine jj_iload_n (pc2 := 35) hC dX1_gather_34 rfl 3 rfl rfl ?_
      refine jj_iload_n (pc2 := 36) hC dX1_gather_35 rfl 0 rfl rfl ?_
      refine ct_V_numbers (pc2 := 37) hC hV.1 dX1_gather_36 rfl (fun g4 eg4 => ?_)
      have hV := hV.2 g4 eg4
      refine jj_aload_n (pc2 := 38) hC dX1_gather_37 rfl 1 rfl rfl ?_
      refine cg_V_cells (pc2 := 41) hC hi_X1_gather_X1 lk_X1_gather_9 dX1_gather_38 rfl ?_
      refine jj_iload_n (pc2 := 42) hC dX1_gather_41 rfl 3 rfl rfl ?_
      refine jj_aload_n (pc2 := 43) hC dX1_gather_42 rfl 2 rfl rfl ?_
      refine jj_iload_n (pc2 := 44) hC dX1_gather_43 rfl 0 rfl rfl ?_
      refine jj_cVIp (pc2 := 47) (wd := wc_d Y X cs ad) (g := g4) (rest := [.int x2, .ref (ad 58)]) hC (Y.length + 5) (jx_at (V := wc_W cs ad g4) rfl) rfl rfl (kc_X6_cellOf l D cs Y X ad y3 g4 _ hV) (cwV 1 hC.1.2.2.2.2 gX1_gather_X6_cellOf rfl rfl rfl (by decide +kernel) ⟨by decide, by decide⟩) rfl (Nat.le_of_ble_eq_true rfl) _ rfl dX1_gather_44 ⟨Nat.zero_le _, Nat.zero_le _⟩ rfl (fun r5 hV => ?_)
      refine ct_V_cells (pc2 := 48) hC hV.1 dX1_gather_47 rfl (fun g6 eg6 => ?_)
      have hV := hV.2 g6 eg6
      refine jj_aload_n (pc2 := 49) hC dX1_gather_48 rfl 1 rfl rfl ?_
      refine cg_V_says (pc2 := 52) hC hi_X1_gather_X1 lk_X1_gather_10 dX1_gather_49 rfl ?_
      refine jj_iload_n (pc2 := 53) hC dX1_gather_52 rfl 3 rfl rfl ?_
      refine jj_aload_n (pc2 := 54) hC dX1_gather_53 rfl 2 rfl rfl ?_
      refine cg_L_says (pc2 := 57) hC hi_X1_gather_X6 lk_X1_gather_11 dX1_gather_54 rfl ?_
      refine jj_iload_n (pc2 := 58) hC dX1_gather_57 rfl 0 rfl rfl ?_
      refine cl_L_says (pc2 := 59) hC hV.1 dX1_gather_58 rfl ?_
      have hV := hV.2
      refine ct_V_says (pc2 := 60) hC hV.1 dX1_gather_59 rfl (fun g7 eg7 => ?_)
      have hV := hV.2 g7 eg7
      refine jj_aload_n (pc2 := 61) hC dX1_gather_60 rfl 1 rfl rfl ?_
      refine cg_V_needs (pc2 := 64) hC hi_X1_gather_X1 lk_X1_gather_12 dX1_gather_61 rfl ?_
      refine jj_iload_n (pc2 := 65) hC dX1_gather_64 rfl 3 rfl rfl ?_
      refine jj_iconst (pc2 := 66) hC 0 dX1_gather_65 (by decide) rfl ?_
      refine ct_V_needs (pc2 := 67) hC hV.1 dX1_gather_66 rfl (fun g8 eg8 => ?_)
      have hV := hV.2 g8 eg8
      refine jj_iconst (pc2 := 68) hC 0 dX1_gather_67 (by decide) rfl ?_
      refine jj_istore (pc2 := 70) hC [(4, .int 0), (3, .int y3), (0, .ref (ad 10)), (1, .ref (ad 5)), (2, .int x2)] dX1_gather_68 (by decide) rfl rfl ?_
      obtain ⟨n14, hV⟩ := hV
      refine jj_sub (lv2 := [(0, .ref (ad 10)), (1, .ref (ad 5)), (2, .int x2), (4, .int 0)]) [2, 3, 4, 0] rfl (ac_X1_gather_70 hC x2 Post _ (fun g13 hV => ?_) n14 0 g8 hV)
      refine jj_iinc (pc2 := 118) hC (x2 + 1) [(2, .int (x2 + 1)), (0, .ref (ad 10)), (1, .ref (ad 5))] dX1_gather_115 2 rfl rfl (by decide) rfl rfl ?_
      refine jj_goto hC 15 dX1_gather_118 (by decide) ?_
      exact jj_sub (lv2 := [(0, .ref (ad 10)), (1, .ref (ad 5)), (2, .int (x2 + 1))]) [1, 2, 0] rfl (ih (x2 + 1) g13 hV)
set_option maxHeartbeats 4000000 in
set_option maxRecDepth 100000 in
theorem ac_X1_gather_123 {p : Program} {l : Launch} {e : Env} {s : State} {m : MethodId} {args : Array Value} {below : List Frame} {meth : Method} {c : Code} {D : va_G} {cs : Nat → ClassId} {Y X : va_W} {ad : Nat → Nat} {g0 : cm_M} (hC : JC p s m args meth c D vwCl (va_A (wc_d Y X cs ad g0) s.heap.size) 5 cX1_gather none wsX1_gather RX1 (jt_tys cs)) (Post : cm_M → Prop) (K146 : cm_M → Prop) (hK146 : ∀ (g : cm_M) , K146 g → JJ (wc_d Y X cs ad) p l e rm_X1_gather s m args below meth c D vwCl (va_A (wc_d Y X cs ad g0) s.heap.size) 5 0 0 (MQ below (jj_QV (wc_d Y X cs ad) D vwCl (jt_tys cs) g0 s.heap.size Post) args s 0 0 (va_A (wc_d Y X cs ad g0) s.heap.size)) 146 [(0, .ref (ad 10))] [] g) : ∀ (f : Nat) (x2 : Int32) (g : cm_M), vc_X1_gather_123 K146 Post f x2 g → JJ (wc_d Y X cs ad) p l e rm_X1_gather s m args below meth c D vwCl (va_A (wc_d Y X cs ad g0) s.heap.size) 5 0 0 (MQ below (jj_QV (wc_d Y X cs ad) D vwCl (jt_tys cs) g0 s.heap.size Post) args s 0 0 (va_A (wc_d Y X cs ad g0) s.heap.size)) 123 [(0, .ref (ad 10)), (2, .int x2)] [] g := by
  intro f
  induction f with
  | zero => intro x2 g hV; exact hV.elim
  | succ f ih =>
    intro x2 g hV
    rw [vc_X1_gather_123] at hV
    refine jj_iload_n (pc2 := 124) hC dX1_gather_123 rfl 1 rfl rfl ?_
    refine jj_iconst (pc2 := 125) hC 1 dX1_gather_124 (by decide) rfl ?_
    refine jj_aload_n (pc2 := 126) hC dX1_gather_125 rfl 0 rfl rfl ?_
    refine cg_V_size (pc2 := 129) hC hi_X1_gather_X1 lk_X1_gather_6 dX1_gather_126 rfl ?_
    refine jj_ishl (pc2 := 130) hC dX1_gather_129 rfl ?_
    refine jj_icmp_ge (pc2 := 133) hC 146 dX1_gather_130 (by decide) rfl (fun h16 => ?_) (fun h16 => ?_)
    · have hV := hV.1 h16
      exact jj_sub (lv2 := [(0, .ref (ad 10))]) [0] rfl (hK146 g hV)
    · have hV := hV.2 h16
      refine jj_aload_n (pc2 := 134) hC dX1_gather_133 rfl 0 rfl rfl ?_
      refine cg_V_stands (pc2 := 137) hC hi_X1_gather_X1 lk_X1_gather_13 dX1_gather_134 rfl ?_
      refine jj_iload_n (pc2 := 138) hC dX1_gather_137 rfl 1 rfl rfl ?_
      refine jj_iconst (pc2 := 139) hC 1 dX1_gather_138 (by decide) rfl ?_
      refine ct_V_stands (pc2 := 140) hC hV.1 jj_nb1 dX1_gather_139 rfl (fun g17 eg17 => ?_)
      have hV := hV.2 g17 eg17
      refine jj_iinc (pc2 := 143) hC (x2 + 1) [(2, .int (x2 + 1)), (0, .ref (ad 10))] dX1_gather_140 1 rfl rfl (by decide) rfl rfl ?_
      refine jj_goto hC 123 dX1_gather_143 (by decide) ?_
      exact jj_sub (lv2 := [(0, .ref (ad 10)), (2, .int (x2 + 1))]) [1, 0] rfl (ih (x2 + 1) g17 hV)
set_option maxHeartbeats 4000000 in
set_option maxRecDepth 100000 in
theorem kc_X1_gather (l : Launch) (D : va_G) (cs : Nat → ClassId) (Y X : va_W) (ad : Nat → Nat) (g0 : cm_M) (Post : cm_M → Prop) (hV : vc_X1_gather g0 Post) : JV (wc_d Y X cs ad) D vwCl (jt_tys cs) l yX1_gather wsX1_gather rm_X1_gather 0 0 [.ref (ad 10), .ref (ad 5)] g0 Post := by
  refine jj_metV (cc := cX1_gather) (nL := 5) (ret := none) (by decide) rfl (Nat.le_of_ble_eq_true rfl) [(0, .ref (ad 10)), (1, .ref (ad 5))] rfl ?_
  intro p e s m args below meth c hC hnm
  rw [vc_X1_gather] at hV
  refine jj_aload_n (pc2 := 1) hC dX1_gather_0 rfl 0 rfl rfl ?_
  refine jj_aload_n (pc2 := 2) hC dX1_gather_1 rfl 1 rfl rfl ?_
  refine cg_L_waits (pc2 := 5) hC hi_X1_gather_X6 lk_X1_gather_1 dX1_gather_2 rfl ?_
  refine jj_bipush (pc2 := 7) hC 6 dX1_gather_5 (by decide) rfl ?_
  refine jj_mmin (pc2 := 10) (rest := [.ref (ad 10)]) hC lk_X1_gather_2 lk_X1_gather_3 lk_X1_gather_4 lk_X1_gather_5 (by decide) (Nat.le_of_ble_eq_true rfl) ⟨Nat.zero_le _, Nat.zero_le _⟩ dX1_gather_7 rfl ?_
  refine cp_V_size (pc2 := 13) hC hi_X1_gather_X1 lk_X1_gather_6 dX1_gather_10 rfl (fun g1 eg1 => ?_)
  have hV := hV g1 eg1
  refine jj_iconst (pc2 := 14) hC 0 dX1_gather_13 (by decide) rfl ?_
  refine jj_istore_n (pc2 := 15) hC [(2, .int 0), (0, .ref (ad 10)), (1, .ref (ad 5))] dX1_gather_14 rfl (by decide) rfl rfl ?_
  obtain ⟨n22, hV⟩ := hV
  refine jj_sub (lv2 := [(0, .ref (ad 10)), (1, .ref (ad 5)), (2, .int 0)]) [1, 2, 0] rfl (ac_X1_gather_15 hC Post _ (fun g15 hV => ?_) n22 0 g1 hV)
  refine jj_iconst (pc2 := 122) hC 0 dX1_gather_121 (by decide) rfl ?_
  refine jj_istore_n (pc2 := 123) hC [(2, .int 0), (0, .ref (ad 10))] dX1_gather_122 rfl (by decide) rfl rfl ?_
  obtain ⟨n21, hV⟩ := hV
  refine jj_sub (lv2 := [(0, .ref (ad 10)), (2, .int 0)]) [1, 0] rfl (ac_X1_gather_123 hC Post _ (fun g18 hV => ?_) n21 0 g15 hV)
  refine jj_aload_n (pc2 := 147) hC dX1_gather_146 rfl 0 rfl rfl ?_
  refine jj_aload_n (pc2 := 148) hC dX1_gather_147 rfl 0 rfl rfl ?_
  refine cg_V_ways (pc2 := 151) hC hi_X1_gather_X1 lk_X1_gather_14 dX1_gather_148 rfl ?_
  refine jj_cVV (pc2 := 154) (wd := wc_d Y X cs ad) (g := g18) (rest := []) hC (Y.length + 10) (jx_at (V := wc_W cs ad g18) rfl) rfl rfl (kc_X1_countInto_ways l D cs Y X ad  g18 _ hV) (cwV 1 hC.1.2.2.2.2 gX1_gather_X1_countInto rfl rfl rfl (by decide +kernel) ⟨by decide, by decide⟩) rfl (Nat.le_of_ble_eq_true rfl) _ rfl dX1_gather_151 ⟨Nat.zero_le _, Nat.zero_le _⟩ rfl (fun g20 hV => ?_)
  exact jj_vret hC dX1_gather_154 hV
