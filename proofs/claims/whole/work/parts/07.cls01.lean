theorem hi_X1_valueAfter_X1 : ∀ w ∈ u_ws RX1 TX1 8, w ∈ wsX1_valueAfter := fun _ h => List.mem_cons_of_mem _ (List.mem_append_right _ h)
theorem lk_X1_valueAfter_2 : Cond.fieldLink RX1 25 "PartedHouse$Arrivals" "cells" "[I" ∈ wsX1_valueAfter := List.mem_of_getElem? (i := 2) rfl
theorem lk_X1_valueAfter_3 : Cond.fieldLink RX1 28 "PartedHouse$Arrivals" "says" "[I" ∈ wsX1_valueAfter := List.mem_of_getElem? (i := 3) rfl
theorem lk_X1_valueAfter_1 : Cond.fieldLink RX1 46 "PartedHouse$Arrivals" "size" "I" ∈ wsX1_valueAfter := List.mem_of_getElem? (i := 1) rfl
abbrev rm_X1_valueAfter : Room := { frames := 0, cells := 0, slots := 0, locals := 0 }
def vc_X1_valueAfter_8 (kk : Nat) (x1 : Int32) (x3 : Int32) (g0 : cm_M) (K33 : Int32 → Prop) (K47 : Prop) (Post : Int32 → Prop) : Nat → Int32 → Prop
  | 0, _ => False
  | f + 1, x4 => ((x4 < 0) → (K47)) ∧ ((¬ x4 < 0) → ((vp_in x4 6) ∧ (((¬ (g0.2.2 64 x4.toNatClampNeg) = x1) → (vc_X1_valueAfter_8 kk x1 x3 g0 K33 K47 Post f (x4 + (-1)))) ∧ (((g0.2.2 64 x4.toNatClampNeg) = x1) → (((((x3 >>> (x4 &&& 31)) &&& 1) = 0) → (vc_X1_valueAfter_8 kk x1 x3 g0 K33 K47 Post f (x4 + (-1)))) ∧ ((¬ ((x3 >>> (x4 &&& 31)) &&& 1) = 0) → (K33 x4)))))))
def vc_X1_valueAfter (kk : Nat) (a1 : Int32) (a3 : Int32) (g0 : cm_M) (Post : Int32 → Prop) : Prop := ∀ y1 : Int32, y1 = (g0.2.2 67 0) - 1 → (∃ n6 : Nat, vc_X1_valueAfter_8 kk a1 a3 g0 (fun (y5 : Int32) => (vp_in y5 6) ∧ (Post (g0.2.2 65 y5.toNatClampNeg))) ((vp_in a1 128) ∧ (Post (g0.2.2 kk a1.toNatClampNeg))) Post n6 y1)
set_option maxHeartbeats 4000000 in
set_option maxRecDepth 100000 in
theorem ac_X1_valueAfter_oldCells_8 {p : Program} {l : Launch} {e : Env} {s : State} {m : MethodId} {args : Array Value} {below : List Frame} {meth : Method} {c : Code} {D : va_G} {cs : Nat → ClassId} {Y X : va_W} {ad : Nat → Nat} {g0 : cm_M} (hC : JC p s m args meth c D vwCl (va_A (wc_d Y X cs ad g0) s.heap.size) 5 cX1_valueAfter (some .int) wsX1_valueAfter RX1 (jt_tys cs)) (x1 : Int32) (x3 : Int32) (Post : Int32 → Prop) (K33 : Int32 → Prop) (hK33 : ∀ (z4 : Int32) , K33 z4 → JJ (wc_d Y X cs ad) p l e rm_X1_valueAfter s m args below meth c D vwCl (va_A (wc_d Y X cs ad g0) s.heap.size) 5 0 0 (MQ below (jj_QI (wc_d Y X cs ad) D vwCl (jt_tys cs) g0 s.heap.size (fun r g2 => Post r ∧ g2 = g0)) args s 0 0 (va_A (wc_d Y X cs ad g0) s.heap.size)) 33 [(0, .ref (ad 10)), (4, .int z4)] [] g0) (K47 : Prop) (hK47 : K47 → JJ (wc_d Y X cs ad) p l e rm_X1_valueAfter s m args below meth c D vwCl (va_A (wc_d Y X cs ad g0) s.heap.size) 5 0 0 (MQ below (jj_QI (wc_d Y X cs ad) D vwCl (jt_tys cs) g0 s.heap.size (fun r g2 => Post r ∧ g2 = g0)) args s 0 0 (va_A (wc_d Y X cs ad g0) s.heap.size)) 47 [(1, .int x1), (2, .ref (ad 30))] [] g0) : ∀ (f : Nat) (x4 : Int32), vc_X1_valueAfter_8 25 x1 x3 g0 K33 K47 Post f x4 → JJ (wc_d Y X cs ad) p l e rm_X1_valueAfter s m args below meth c D vwCl (va_A (wc_d Y X cs ad g0) s.heap.size) 5 0 0 (MQ below (jj_QI (wc_d Y X cs ad) D vwCl (jt_tys cs) g0 s.heap.size (fun r g2 => Post r ∧ g2 = g0)) args s 0 0 (va_A (wc_d Y X cs ad g0) s.heap.size)) 8 [(0, .ref (ad 10)), (1, .int x1), (2, .ref (ad 30)), (3, .int x3), (4, .int x4)] [] g0 := by
  intro f
  induction f with
  | zero => intro x4 hV; exact hV.elim
  | succ f ih =>
    intro x4 hV
    rw [vc_X1_valueAfter_8] at hV
    refine jj_iload (pc2 := 10) hC dX1_valueAfter_8 4 rfl rfl ?_
    refine jj_if_lt (pc2 := 13) hC 47 dX1_valueAfter_10 (by decide) rfl (fun h2 => ?_) (fun h2 => ?_)
    · have hV := hV.1 h2
      exact jj_sub (lv2 := [(1, .int x1), (2, .ref (ad 30))]) [1, 2] rfl (hK47  hV)
    · have hV := hV.2 h2
      refine jj_aload_n (pc2 := 14) hC dX1_valueAfter_13 rfl 0 rfl rfl ?_
      refine cg_V_cells (pc2 := 17) hC hi_X1_valueAfter_X1 lk_X1_valueAfter_2 dX1_valueAfter_14 rfl ?_
      refine jj_iload (pc2 := 19) hC dX1_valueAfter_17 4 rfl rfl ?_
      refine cl_V_cells (pc2 := 20) hC hV.1 dX1_valueAfter_19 rfl ?_
      have hV := hV.2
      refine jj_iload_n (pc2 := 21) hC dX1_valueAfter_20 rfl 1 rfl rfl ?_
      refine jj_icmp_ne (pc2 := 24) hC 41 dX1_valueAfter_21 (by decide) rfl (fun h3 => ?_) (fun h3 => ?_)
      · have hV := hV.1 h3
        refine jj_iinc (pc2 := 44) hC (x4 + (-1)) [(4, .int (x4 + (-1))), (0, .ref (ad 10)), (1, .int x1), (2, .ref (ad 30)), (3, .int x3)] dX1_valueAfter_41 4 rfl rfl (by decide) rfl rfl ?_
        refine jj_goto hC 8 dX1_valueAfter_44 (by decide) ?_
        exact jj_sub (lv2 := [(0, .ref (ad 10)), (1, .int x1), (2, .ref (ad 30)), (3, .int x3), (4, .int (x4 + (-1)))]) [1, 2, 3, 4, 0] rfl (ih (x4 + (-1)) hV)
      · have hV := hV.2 h3
        refine jj_iload_n (pc2 := 25) hC dX1_valueAfter_24 rfl 3 rfl rfl ?_
        refine jj_iload (pc2 := 27) hC dX1_valueAfter_25 4 rfl rfl ?_
        refine jj_ishr (pc2 := 28) hC dX1_valueAfter_27 rfl ?_
        refine jj_iconst (pc2 := 29) hC 1 dX1_valueAfter_28 (by decide) rfl ?_
        refine jj_iand (pc2 := 30) hC dX1_valueAfter_29 rfl ?_
        refine jj_if_eq (pc2 := 33) hC 41 dX1_valueAfter_30 (by decide) rfl (fun h4 => ?_) (fun h4 => ?_)
        · have hV := hV.1 h4
          refine jj_iinc (pc2 := 44) hC (x4 + (-1)) [(4, .int (x4 + (-1))), (0, .ref (ad 10)), (1, .int x1), (2, .ref (ad 30)), (3, .int x3)] dX1_valueAfter_41 4 rfl rfl (by decide) rfl rfl ?_
          refine jj_goto hC 8 dX1_valueAfter_44 (by decide) ?_
          exact jj_sub (lv2 := [(0, .ref (ad 10)), (1, .int x1), (2, .ref (ad 30)), (3, .int x3), (4, .int (x4 + (-1)))]) [1, 2, 3, 4, 0] rfl (ih (x4 + (-1)) hV)
        · have hV := hV.2 h4
          exact jj_sub (lv2 := [(0, .ref (ad 10)), (4, .int x4)]) [0, 4] rfl (hK33 x4 hV)
set_option maxHeartbeats 4000000 in
set_option maxRecDepth 100000 in
theorem kc_X1_valueAfter_oldCells (l : Launch) (D : va_G) (cs : Nat → ClassId) (Y X : va_W) (ad : Nat → Nat) (a1 : Int32) (a3 : Int32) (g0 : cm_M) (Post : Int32 → Prop) (hV : vc_X1_valueAfter 25 a1 a3 g0 Post) : JI (wc_d Y X cs ad) D vwCl (jt_tys cs) l yX1_valueAfter wsX1_valueAfter rm_X1_valueAfter 0 0 [.ref (ad 10), .int a1, .ref (ad 30), .int a3] g0 (fun r g2 => Post r ∧ g2 = g0) := by
  refine jj_metI (cc := cX1_valueAfter) (nL := 5) (ret := (some .int)) (by decide) rfl (Nat.le_of_ble_eq_true rfl) [(0, .ref (ad 10)), (1, .int a1), (2, .ref (ad 30)), (3, .int a3)] rfl ?_
  intro p e s m args below meth c hC hnm
  rw [vc_X1_valueAfter] at hV
  refine jj_aload_n (pc2 := 1) hC dX1_valueAfter_0 rfl 0 rfl rfl ?_
  refine cg_V_size (pc2 := 4) hC hi_X1_valueAfter_X1 lk_X1_valueAfter_1 dX1_valueAfter_1 rfl ?_
  refine jj_iconst (pc2 := 5) hC 1 dX1_valueAfter_4 (by decide) rfl ?_
  refine jj_isub (pc2 := 6) hC dX1_valueAfter_5 rfl ?_
  refine jj_topi (fun y1 ey1 => ?_)
  have hV := hV y1 ey1
  refine jj_istore (pc2 := 8) hC [(4, .int y1), (0, .ref (ad 10)), (1, .int a1), (2, .ref (ad 30)), (3, .int a3)] dX1_valueAfter_6 (by decide) rfl rfl ?_
  obtain ⟨n6, hV⟩ := hV
  refine jj_sub (lv2 := [(0, .ref (ad 10)), (1, .int a1), (2, .ref (ad 30)), (3, .int a3), (4, .int y1)]) [1, 2, 3, 4, 0] rfl (ac_X1_valueAfter_oldCells_8 hC a1 a3 Post _ (fun y5 hV => ?_) _ (fun hV => ?_) n6 y1 hV)
  · refine jj_aload_n (pc2 := 34) hC dX1_valueAfter_33 rfl 0 rfl rfl ?_
    refine cg_V_says (pc2 := 37) hC hi_X1_valueAfter_X1 lk_X1_valueAfter_3 dX1_valueAfter_34 rfl ?_
    refine jj_iload (pc2 := 39) hC dX1_valueAfter_37 1 rfl rfl ?_
    refine cl_V_says (pc2 := 40) hC hV.1 dX1_valueAfter_39 rfl ?_
    have hV := hV.2
    exact jj_iret hC dX1_valueAfter_40 ⟨hV, rfl⟩
  · refine jj_aload_n (pc2 := 48) hC dX1_valueAfter_47 rfl 1 rfl rfl ?_
    refine jj_iload_n (pc2 := 49) hC dX1_valueAfter_48 rfl 0 rfl rfl ?_
    refine cl_H_oldCells (pc2 := 50) hC hV.1 dX1_valueAfter_49 rfl ?_
    have hV := hV.2
    exact jj_iret hC dX1_valueAfter_50 ⟨hV, rfl⟩
set_option maxHeartbeats 4000000 in
set_option maxRecDepth 100000 in
theorem ac_X1_valueAfter_newCells_8 {p : Program} {l : Launch} {e : Env} {s : State} {m : MethodId} {args : Array Value} {below : List Frame} {meth : Method} {c : Code} {D : va_G} {cs : Nat → ClassId} {Y X : va_W} {ad : Nat → Nat} {g0 : cm_M} (hC : JC p s m args meth c D vwCl (va_A (wc_d Y X cs ad g0) s.heap.size) 5 cX1_valueAfter (some .int) wsX1_valueAfter RX1 (jt_tys cs)) (x1 : Int32) (x3 : Int32) (Post : Int32 → Prop) (K33 : Int32 → Prop) (hK33 : ∀ (z4 : Int32) , K33 z4 → JJ (wc_d Y X cs ad) p l e rm_X1_valueAfter s m args below meth c D vwCl (va_A (wc_d Y X cs ad g0) s.heap.size) 5 0 0 (MQ below (jj_QI (wc_d Y X cs ad) D vwCl (jt_tys cs) g0 s.heap.size (fun r g2 => Post r ∧ g2 = g0)) args s 0 0 (va_A (wc_d Y X cs ad g0) s.heap.size)) 33 [(0, .ref (ad 10)), (4, .int z4)] [] g0) (K47 : Prop) (hK47 : K47 → JJ (wc_d Y X cs ad) p l e rm_X1_valueAfter s m args below meth c D vwCl (va_A (wc_d Y X cs ad g0) s.heap.size) 5 0 0 (MQ below (jj_QI (wc_d Y X cs ad) D vwCl (jt_tys cs) g0 s.heap.size (fun r g2 => Post r ∧ g2 = g0)) args s 0 0 (va_A (wc_d Y X cs ad g0) s.heap.size)) 47 [(1, .int x1), (2, .ref (ad 31))] [] g0) : ∀ (f : Nat) (x4 : Int32), vc_X1_valueAfter_8 26 x1 x3 g0 K33 K47 Post f x4 → JJ (wc_d Y X cs ad) p l e rm_X1_valueAfter s m args below meth c D vwCl (va_A (wc_d Y X cs ad g0) s.heap.size) 5 0 0 (MQ below (jj_QI (wc_d Y X cs ad) D vwCl (jt_tys cs) g0 s.heap.size (fun r g2 => Post r ∧ g2 = g0)) args s 0 0 (va_A (wc_d Y X cs ad g0) s.heap.size)) 8 [(0, .ref (ad 10)), (1, .int x1), (2, .ref (ad 31)), (3, .int x3), (4, .int x4)] [] g0 := by
  intro f
  induction f with
  | zero => intro x4 hV; exact hV.elim
  | succ f ih =>
    intro x4 hV
    rw [vc_X1_valueAfter_8] at hV
    refine jj_iload (pc2 := 10) hC dX1_valueAfter_8 4 rfl rfl ?_
    refine jj_if_lt (pc2 := 13) hC 47 dX1_valueAfter_10 (by decide) rfl (fun h2 => ?_) (fun h2 => ?_)
    · have hV := hV.1 h2
      exact jj_sub (lv2 := [(1, .int x1), (2, .ref (ad 31))]) [1, 2] rfl (hK47  hV)
    · have hV := hV.2 h2
      refine jj_aload_n (pc2 := 14) hC dX1_valueAfter_13 rfl 0 rfl rfl ?_
      refine cg_V_cells (pc2 := 17) hC hi_X1_valueAfter_X1 lk_X1_valueAfter_2 dX1_valueAfter_14 rfl ?_
      refine jj_iload (pc2 := 19) hC dX1_valueAfter_17 4 rfl rfl ?_
      refine cl_V_cells (pc2 := 20) hC hV.1 dX1_valueAfter_19 rfl ?_
      have hV := hV.2
      refine jj_iload_n (pc2 := 21) hC dX1_valueAfter_20 rfl 1 rfl rfl ?_
      refine jj_icmp_ne (pc2 := 24) hC 41 dX1_valueAfter_21 (by decide) rfl (fun h3 => ?_) (fun h3 => ?_)
      · have hV := hV.1 h3
        refine jj_iinc (pc2 := 44) hC (x4 + (-1)) [(4, .int (x4 + (-1))), (0, .ref (ad 10)), (1, .int x1), (2, .ref (ad 31)), (3, .int x3)] dX1_valueAfter_41 4 rfl rfl (by decide) rfl rfl ?_
        refine jj_goto hC 8 dX1_valueAfter_44 (by decide) ?_
        exact jj_sub (lv2 := [(0, .ref (ad 10)), (1, .int x1), (2, .ref (ad 31)), (3, .int x3), (4, .int (x4 + (-1)))]) [1, 2, 3, 4, 0] rfl (ih (x4 + (-1)) hV)
      · have hV := hV.2 h3
        refine jj_iload_n (pc2 := 25) hC dX1_valueAfter_24 rfl 3 rfl rfl ?_
        refine jj_iload (pc2 := 27) hC dX1_valueAfter_25 4 rfl rfl ?_
        refine jj_ishr (pc2 := 28) hC dX1_valueAfter_27 rfl ?_
        refine jj_iconst (pc2 := 29) hC 1 dX1_valueAfter_28 (by decide) rfl ?_
        refine jj_iand (pc2 := 30) hC dX1_valueAfter_29 rfl ?_
        refine jj_if_eq (pc2 := 33) hC 41 dX1_valueAfter_30 (by decide) rfl (fun h4 => ?_) (fun h4 => ?_)
        · have hV := hV.1 h4
          refine jj_iinc (pc2 := 44) hC (x4 + (-1)) [(4, .int (x4 + (-1))), (0, .ref (ad 10)), (1, .int x1), (2, .ref (ad 31)), (3, .int x3)] dX1_valueAfter_41 4 rfl rfl (by decide) rfl rfl ?_
          refine jj_goto hC 8 dX1_valueAfter_44 (by decide) ?_
          exact jj_sub (lv2 := [(0, .ref (ad 10)), (1, .int x1), (2, .ref (ad 31)), (3, .int x3), (4, .int (x4 + (-1)))]) [1, 2, 3, 4, 0] rfl (ih (x4 + (-1)) hV)
        · have hV := hV.2 h4
          exact jj_sub (lv2 := [(0, .ref (ad 10)), (4, .int x4)]) [0, 4] rfl (hK33 x4 hV)
set_option maxHeartbeats 4000000 in
set_option maxRecDepth 100000 in
theorem kc_X1_valueAfter_newCells (l : Launch) (D : va_G) (cs : Nat → ClassId) (Y X : va_W) (ad : Nat → Nat) (a1 : Int32) (a3 : Int32) (g0 : cm_M) (Post : Int32 → Prop) (hV : vc_X1_valueAfter 26 a1 a3 g0 Post) : JI (wc_d Y X cs ad) D vwCl (jt_tys cs) l yX1_valueAfter wsX1_valueAfter rm_X1_valueAfter 0 0 [.ref (ad 10), .int a1, .ref (ad 31), .int a3] g0 (fun r g2 => Post r ∧ g2 = g0) := by
  refine jj_metI (cc := cX1_valueAfter) (nL := 5) (ret := (some .int)) (by decide) rfl (Nat.le_of_ble_eq_true rfl) [(0, .ref (ad 10)), (1, .int a1), (2, .ref (ad 31)), (3, .int a3)] rfl ?_
  intro p e s m args below meth c hC hnm
  rw [vc_X1_valueAfter] at hV
  refine jj_aload_n (pc2 := 1) hC dX1_valueAfter_0 rfl 0 rfl rfl ?_
  refine cg_V_size (pc2 := 4) hC hi_X1_valueAfter_X1 lk_X1_valueAfter_1 dX1_valueAfter_1 rfl ?_
  refine jj_iconst (pc2 := 5) hC 1 dX1_valueAfter_4 (by decide) rfl ?_
  refine jj_isub (pc2 := 6) hC dX1_valueAfter_5 rfl ?_
  refine jj_topi (fun y1 ey1 => ?_)
  have hV := hV y1 ey1
  refine jj_istore (pc2 := 8) hC [(4, .int y1), (0, .ref (ad 10)), (1, .int a1), (2, .ref (ad 31)), (3, .int a3)] dX1_valueAfter_6 (by decide) rfl rfl ?_
  obtain ⟨n6, hV⟩ := hV
  refine jj_sub (lv2 := [(0, .ref (ad 10)), (1, .int a1), (2, .ref (ad 31)), (3, .int a3), (4, .int y1)]) [1, 2, 3, 4, 0] rfl (ac_X1_valueAfter_newCells_8 hC a1 a3 Post _ (fun y5 hV => ?_) _ (fun hV => ?_) n6 y1 hV)
  · refine jj_aload_n (pc2 := 34) hC dX1_valueAfter_33 rfl 0 rfl rfl ?_
    refine cg_V_says (pc2 := 37) hC hi_X1_valueAfter_X1 lk_X1_valueAfter_3 dX1_valueAfter_34 rfl ?_
    refine jj_iload (pc2 := 39) hC dX1_valueAfter_37 1 rfl rfl ?_
    refine cl_V_says (pc2 := 40) hC hV.1 dX1_valueAfter_39 rfl ?_
    have hV := hV.2
    exact jj_iret hC dX1_valueAfter_40 ⟨hV, rfl⟩
  · refine jj_aload_n (pc2 := 48) hC dX1_valueAfter_47 rfl 1 rfl rfl ?_
    refine jj_iload_n (pc2 := 49) hC dX1_valueAfter_48 rfl 0 rfl rfl ?_
    refine cl_H_newCells (pc2 := 50) hC hV.1 dX1_valueAfter_49 rfl ?_
    have hV := hV.2
    exact jj_iret hC dX1_valueAfter_50 ⟨hV, rfl⟩
theorem hi_X5_standsAfter_X5 : ∀ w ∈ u_ws RX5 TX5 5, w ∈ wsX5_standsAfter := fun _ h => List.mem_cons_of_mem _ (List.mem_append_left _ (List.mem_append_right _ h))
theorem lk_X5_standsAfter_3 : Cond.fieldLink RX5 18 "PartedHouse$Laws" "cells" "[I" ∈ wsX5_standsAfter := List.mem_of_getElem? (i := 3) rfl
theorem lk_X5_standsAfter_2 : Cond.fieldLink RX5 21 "PartedHouse$Laws" "factors" "[I" ∈ wsX5_standsAfter := List.mem_of_getElem? (i := 2) rfl
theorem lk_X5_standsAfter_1 : Cond.fieldLink RX5 9 "PartedHouse$Laws" "lengths" "[I" ∈ wsX5_standsAfter := List.mem_of_getElem? (i := 1) rfl
theorem lk_X5_standsAfter_4 : Cond.fieldLink RX5 15 "PartedHouse$Laws" "leasts" "[I" ∈ wsX5_standsAfter := List.mem_of_getElem? (i := 4) rfl
abbrev rm_X5_standsAfter : Room := { frames := 1, cells := 0, slots := 0, locals := 24 }
def vc_X5_standsAfter_6 (kk : Nat) (x1 : Int32) (x4 : Int32) (g0 : cm_M) (K61 : Int64 → Prop) (Post : Int32 → Prop) : Nat → Int64 → Int32 → Prop
  | 0, _, _ => False
  | f + 1, x5, x7 => (vp_in x1 10) ∧ ((((g0.2.2 55 x1.toNatClampNeg) ≤ x7) → (K61 x5)) ∧ ((¬ (g0.2.2 55 x1.toNatClampNeg) ≤ x7) → (∀ y2 : Int32, y2 = (x1 * 6) + x7 → ((vp_in y2 60) ∧ ((vp_in y2 60) ∧ (vc_X1_valueAfter kk (g0.2.2 57 y2.toNatClampNeg) x4 g0 (fun (r3 : Int32) => ∀ y4 : Int64, y4 = x5 + (((g0.2.2 58 y2.toNatClampNeg).toInt64) * (r3.toInt64)) → (vc_X5_standsAfter_6 kk x1 x4 g0 K61 Post f y4 (x7 + 1)))))))))
def vc_X5_standsAfter (kk : Nat) (a1 : Int32) (a4 : Int32) (g0 : cm_M) (Post : Int32 → Prop) : Prop := ∃ n7 : Nat, vc_X5_standsAfter_6 kk a1 a4 g0 (fun (y5 : Int64) => (vp_in a1 10) ∧ ((((lg_cmp y5 ((g0.2.2 56 a1.toNatClampNeg).toInt64)) < 0) → (Post 0)) ∧ ((¬ (lg_cmp y5 ((g0.2.2 56 a1.toNatClampNeg).toInt64)) < 0) → (Post 1)))) Post n7 0 0
set_option maxHeartbeats 4000000 in
set_option maxRecDepth 100000 in
theorem ac_X5_standsAfter_oldCells_6 {p : Program} {l : Launch} {e : Env} {s : State} {m : MethodId} {args : Array Value} {below : List Frame} {meth : Method} {c : Code} {D : va_G} {cs : Nat → ClassId} {Y X : va_W} {ad : Nat → Nat} {g0 : cm_M} (hC : JC p s m args meth c D vwCl (va_A (wc_d Y X cs ad g0) s.heap.size) 9 cX5_standsAfter (some .boolean) wsX5_standsAfter RX5 (jt_tys cs)) (x1 : Int32) (x4 : Int32) (Post : Int32 → Prop) (K61 : Int64 → Prop) (hK61 : ∀ (z5 : Int64) , K61 z5 → JJ (wc_d Y X cs ad) p l e rm_X5_standsAfter s m args below meth c D vwCl (va_A (wc_d Y X cs ad g0) s.heap.size) 9 0 0 (MQ below (jj_QI (wc_d Y X cs ad) D vwCl (jt_tys cs) g0 s.heap.size (fun r g2 => Post r ∧ g2 = g0)) args s 0 0 (va_A (wc_d Y X cs ad g0) s.heap.size)) 61 [(0, .ref (ad 9)), (1, .int x1), (5, .long z5)] [] g0) : ∀ (f : Nat) (x5 : Int64) (x7 : Int32), vc_X5_standsAfter_6 25 x1 x4 g0 K61 Post f x5 x7 → JJ (wc_d Y X cs ad) p l e rm_X5_standsAfter s m args below meth c D vwCl (va_A (wc_d Y X cs ad g0) s.heap.size) 9 0 0 (MQ below (jj_QI (wc_d Y X cs ad) D vwCl (jt_tys cs) g0 s.heap.size (fun r g2 => Post r ∧ g2 = g0)) args s 0 0 (va_A (wc_d Y X cs ad g0) s.heap.size)) 6 [(0, .ref (ad 9)), (1, .int x1), (2, .ref (ad 30)), (3, .ref (ad 10)), (4, .int x4), (5, .long x5), (7, .int x7)] [] g0 := by
  intro f
  induction f with
  | zero => intro x5 x7 hV; exact hV.elim
  | succ f ih =>
    intro x5 x7 hV
    rw [vc_X5_standsAfter_6] at hV
    refine jj_iload (pc2 := 8) hC dX5_standsAfter_6 6 rfl rfl ?_
    refine jj_aload_n (pc2 := 9) hC dX5_standsAfter_8 rfl 0 rfl rfl ?_
    refine cg_B_lengths (pc2 := 12) hC hi_X5_standsAfter_X5 lk_X5_standsAfter_1 dX5_standsAfter_9 rfl ?_
    refine jj_iload_n (pc2 := 13) hC dX5_standsAfter_12 rfl 1 rfl rfl ?_
    refine cl_B_lengths (pc2 := 14) hC hV.1 dX5_standsAfter_13 rfl ?_
    have hV := hV.2
    refine jj_icmp_ge (pc2 := 17) hC 61 dX5_standsAfter_14 (by decide) rfl (fun h1 => ?_) (fun h1 => ?_)
    · have hV := hV.1 h1
      exact jj_sub (lv2 := [(0, .ref (ad 9)), (1, .int x1), (5, .long x5)]) [0, 1, 5] rfl (hK61 x5 hV)
    · have hV := hV.2 h1
      refine jj_iload_n (pc2 := 18) hC dX5_standsAfter_17 rfl 1 rfl rfl ?_
      refine jj_bipush (pc2 := 20) hC 6 dX5_standsAfter_18 (by decide) rfl ?_
      refine jj_imul (pc2 := 21) hC dX5_standsAfter_20 rfl ?_
      refine jj_iload (pc2 := 23) hC dX5_standsAfter_21 6 rfl rfl ?_
      refine jj_iadd (pc2 := 24) hC dX5_standsAfter_23 rfl ?_
      refine jj_topi (fun y2 ey2 => ?_)
      have hV := hV y2 ey2
      refine jj_istore (pc2 := 26) hC [(8, .int y2), (0, .ref (ad 9)), (1, .int x1), (2, .ref (ad 30)), (3, .ref (ad 10)), (4, .int x4), (5, .long x5), (7, .int x7)] dX5_standsAfter_24 (by decide) rfl rfl ?_
      refine jj_lload (pc2 := 28) hC dX5_standsAfter_26 6 rfl rfl ?_
      refine jj_aload_n (pc2 := 29) hC dX5_standsAfter_28 rfl 1 rfl rfl ?_
      refine cg_B_factors (pc2 := 32) hC hi_X5_standsAfter_X5 lk_X5_standsAfter_2 dX5_standsAfter_29 rfl ?_
      refine jj_iload (pc2 := 34) hC dX5_standsAfter_32 0 rfl rfl ?_
      refine cl_B_factors (pc2 := 35) hC hV.1 dX5_standsAfter_34 rfl ?_
      have hV := hV.2
      refine jj_i2l (pc2 := 36) hC dX5_standsAfter_35 rfl ?_
      refine jj_aload_n (pc2 := 37) hC dX5_standsAfter_36 rfl 4 rfl rfl ?_
      refine jj_aload_n (pc2 := 38) hC dX5_standsAfter_37 rfl 1 rfl rfl ?_
      refine cg_B_cells (pc2 := 41) hC hi_X5_standsAfter_X5 lk_X5_standsAfter_3 dX5_standsAfter_38 rfl ?_
      refine jj_iload (pc2 := 43) hC dX5_standsAfter_41 0 rfl rfl ?_
      refine cl_B_cells (pc2 := 44) hC hV.1 dX5_standsAfter_43 rfl ?_
      have hV := hV.2
      refine jj_aload_n (pc2 := 45) hC dX5_standsAfter_44 rfl 3 rfl rfl ?_
      refine jj_iload (pc2 := 47) hC dX5_standsAfter_45 5 rfl rfl ?_
      refine jj_cVIp (pc2 := 50) (wd := wc_d Y X cs ad) (g := g0) (rest := [.long ((g0.2.2 58 y2.toNatClampNeg).toInt64), .long x5]) hC (Y.length + 10) (jx_at (V := wc_W cs ad g0) rfl) rfl rfl (kc_X1_valueAfter_oldCells l D cs Y X ad (g0.2.2 57 y2.toNatClampNeg) x4 g0 _ hV) (cwV 3 hC.1.2.2.2.2 gX5_standsAfter_X1_valueAfter rfl rfl rfl (by decide +kernel) ⟨by decide, by decide⟩) rfl (Nat.le_of_ble_eq_true rfl) _ rfl dX5_standsAfter_47 ⟨Nat.zero_le _, Nat.zero_le _⟩ rfl (fun r3 hV => ?_)
      refine jj_i2l (pc2 := 51) hC dX5_standsAfter_50 rfl ?_
      refine jj_lmul (pc2 := 52) hC dX5_standsAfter_51 rfl ?_
      refine jj_ladd (pc2 := 53) hC dX5_standsAfter_52 rfl ?_
      refine jj_topl (fun y4 ey4 => ?_)
      have hV := hV y4 ey4
      refine jj_lstore (pc2 := 55) hC [(5, .long y4), (8, .int y2), (0, .ref (ad 9)), (1, .int x1), (2, .ref (ad 30)), (3, .ref (ad 10)), (4, .int x4), (7, .int x7)] dX5_standsAfter_53 (by decide) rfl rfl ?_
      refine jj_iinc (pc2 := 58) hC (x7 + 1) [(7, .int (x7 + 1)), (5, .long y4), (8, .int y2), (0, .ref (ad 9)), (1, .int x1), (2, .ref (ad 30)), (3, .ref (ad 10)), (4, .int x4)] dX5_standsAfter_55 7 rfl rfl (by decide) rfl rfl ?_
      refine jj_goto hC 6 dX5_standsAfter_58 (by decide) ?_
      exact jj_sub (lv2 := [(0, .ref (ad 9)), (1, .int x1), (2, .ref (ad 30)), (3, .ref (ad 10)), (4, .int x4), (5, .long y4), (7, .int (x7 + 1))]) [3, 4, 5, 6, 7, 1, 0] rfl (ih y4 (x7 + 1) hV)
set_option maxHeartbeats 4000000 in
set_option maxRecDepth 100000 in
theorem kc_X5_standsAfter_oldCells (l : Launch) (D : va_G) (cs : Nat → ClassId) (Y X : va_W) (ad : Nat → Nat) (a1 : Int32) (a4 : Int32) (g0 : cm_M) (Post : Int32 → Prop) (hV : vc_X5_standsAfter 25 a1 a4 g0 Post) : JI (wc_d Y X cs ad) D vwCl (jt_tys cs) l yX5_standsAfter wsX5_standsAfter rm_X5_standsAfter 0 0 [.ref (ad 9), .int a1, .ref (ad 30), .ref (ad 10), .int a4] g0 (fun r g2 => Post r ∧ g2 = g0) := by
  refine jj_metI (cc := cX5_standsAfter) (nL := 9) (ret := (some .boolean)) (by decide) rfl (Nat.le_of_ble_eq_true rfl) [(0, .ref (ad 9)), (1, .int a1), (2, .ref (ad 30)), (3, .ref (ad 10)), (4, .int a4)] rfl ?_
  intro p e s m args below meth c hC hnm
  rw [vc_X5_standsAfter] at hV
  refine jj_lconst (pc2 := 1) hC 0 dX5_standsAfter_0 (by decide) rfl ?_
  refine jj_lstore (pc2 := 3) hC [(5, .long 0), (0, .ref (ad 9)), (1, .int a1), (2, .ref (ad 30)), (3, .ref (ad 10)), (4, .int a4)] dX5_standsAfter_1 (by decide) rfl rfl ?_
  refine jj_iconst (pc2 := 4) hC 0 dX5_standsAfter_3 (by decide) rfl ?_
  refine jj_istore (pc2 := 6) hC [(7, .int 0), (5, .long 0), (0, .ref (ad 9)), (1, .int a1), (2, .ref (ad 30)), (3, .ref (ad 10)), (4, .int a4)] dX5_standsAfter_4 (by decide) rfl rfl ?_
  obtain ⟨n7, hV⟩ := hV
  refine jj_sub (lv2 := [(0, .ref (ad 9)), (1, .int a1), (2, .ref (ad 30)), (3, .ref (ad 10)), (4, .int a4), (5, .long 0), (7, .int 0)]) [2, 3, 4, 5, 6, 1, 0] rfl (ac_X5_standsAfter_oldCells_6 hC a1 a4 Post _ (fun y5 hV => ?_) n7 0 0 hV)
  refine jj_lload (pc2 := 63) hC dX5_standsAfter_61 2 rfl rfl ?_
  refine jj_aload_n (pc2 := 64) hC dX5_standsAfter_63 rfl 0 rfl rfl ?_
  refine cg_B_leasts (pc2 := 67) hC hi_X5_standsAfter_X5 lk_X5_standsAfter_4 dX5_standsAfter_64 rfl ?_
  refine jj_iload_n (pc2 := 68) hC dX5_standsAfter_67 rfl 1 rfl rfl ?_
  refine cl_B_leasts (pc2 := 69) hC hV.1 dX5_standsAfter_68 rfl ?_
  have hV := hV.2
  refine jj_i2l (pc2 := 70) hC dX5_standsAfter_69 rfl ?_
  refine jj_lcmp (pc2 := 71) hC dX5_standsAfter_70 rfl ?_
  refine jj_if_lt (pc2 := 74) hC 78 dX5_standsAfter_71 (by decide) rfl (fun h6 => ?_) (fun h6 => ?_)
  · have hV := hV.1 h6
    refine jj_iconst (pc2 := 79) hC 0 dX5_standsAfter_78 (by decide) rfl ?_
    exact jj_zret hC jj_nb0 dX5_standsAfter_79 ⟨hV, rfl⟩
  · have hV := hV.2 h6
    refine jj_iconst (pc2 := 75) hC 1 dX5_standsAfter_74 (by decide) rfl ?_
    refine jj_goto hC 79 dX5_standsAfter_75 (by decide) ?_
    exact jj_zret hC jj_nb1 dX5_standsAfter_79 ⟨hV, rfl⟩
set_option maxHeartbeats 4000000 in
set_option maxRecDepth 100000 in
theorem ac_X5_standsAfter_newCells_6 {p : Program} {l : Launch} {e : Env} {s : State} {m : MethodId} {args : Array Value} {below : List Frame} {meth : Method} {c : Code} {D : va_G} {cs : Nat → ClassId} {Y X : va_W} {ad : Nat → Nat} {g0 : cm_M} (hC : JC p s m args meth c D vwCl (va_A (wc_d Y X cs ad g0) s.heap.size) 9 cX5_standsAfter (some .boolean) wsX5_standsAfter RX5 (jt_tys cs)) (x1 : Int32) (x4 : Int32) (Post : Int32 → Prop) (K61 : Int64 → Prop) (hK61 : ∀ (z5 : Int64) , K61 z5 → JJ (wc_d Y X cs ad) p l e rm_X5_standsAfter s m args below meth c D vwCl (va_A (wc_d Y X cs ad g0) s.heap.size) 9 0 0 (MQ below (jj_QI (wc_d Y X cs ad) D vwCl (jt_tys cs) g0 s.heap.size (fun r g2 => Post r ∧ g2 = g0)) args s 0 0 (va_A (wc_d Y X cs ad g0) s.heap.size)) 61 [(0, .ref (ad 9)), (1, .int x1), (5, .long z5)] [] g0) : ∀ (f : Nat) (x5 : Int64) (x7 : Int32), vc_X5_standsAfter_6 26 x1 x4 g0 K61 Post f x5 x7 → JJ (wc_d Y X cs ad) p l e rm_X5_standsAfter s m args below meth c D vwCl (va_A (wc_d Y X cs ad g0) s.heap.size) 9 0 0 (MQ below (jj_QI (wc_d Y X cs ad) D vwCl (jt_tys cs) g0 s.heap.size (fun r g2 => Post r ∧ g2 = g0)) args s 0 0 (va_A (wc_d Y X cs ad g0) s.heap.size)) 6 [(0, .ref (ad 9)), (1, .int x1), (2, .ref (ad 31)), (3, .ref (ad 10)), (4, .int x4), (5, .long x5), (7, .int x7)] [] g0 := by
  intro f
  induction f with
  | zero => intro x5 x7 hV; exact hV.elim
  | succ f ih =>
    intro x5 x7 hV
    rw [vc_X5_standsAfter_6] at hV
    refine jj_iload (pc2 := 8) hC dX5_standsAfter_6 6 rfl rfl ?_
    refine jj_aload_n (pc2 := 9) hC dX5_standsAfter_8 rfl 0 rfl rfl ?_
    refine cg_B_lengths (pc2 := 12) hC hi_X5_standsAfter_X5 lk_X5_standsAfter_1 dX5_standsAfter_9 rfl ?_
    refine jj_iload_n (pc2 := 13) hC dX5_standsAfter_12 rfl 1 rfl rfl ?_
    refine cl_B_lengths (pc2 := 14) hC hV.1 dX5_standsAfter_13 rfl ?_
    have hV := hV.2
    refine jj_icmp_ge (pc2 := 17) hC 61 dX5_standsAfter_14 (by decide) rfl (fun h1 => ?_) (fun h1 => ?_)
    · have hV := hV.1 h1
      exact jj_sub (lv2 := [(0, .ref (ad 9)), (1, .int x1), (5, .long x5)]) [0, 1, 5] rfl (hK61 x5 hV)
    · have hV := hV.2 h1
      refine jj_iload_n (pc2 := 18) hC dX5_standsAfter_17 rfl 1 rfl rfl ?_
      refine jj_bipush (pc2 := 20) hC 6 dX5_standsAfter_18 (by decide) rfl ?_
      refine jj_imul (pc2 := 21) hC dX5_standsAfter_20 rfl ?_
      refine jj_iload (pc2 := 23) hC dX5_standsAfter_21 6 rfl rfl ?_
      refine jj_iadd (pc2 := 24) hC dX5_standsAfter_23 rfl ?_
      refine jj_topi (fun y2 ey2 => ?_)
      have hV := hV y2 ey2
      refine jj_istore (pc2 := 26) hC [(8, .int y2), (0, .ref (ad 9)), (1, .int x1), (2, .ref (ad 31)), (3, .ref (ad 10)), (4, .int x4), (5, .long x5), (7, .int x7)] dX5_standsAfter_24 (by decide) rfl rfl ?_
      refine jj_lload (pc2 := 28) hC dX5_standsAfter_26 6 rfl rfl ?_
      refine jj_aload_n (pc2 := 29) hC dX5_standsAfter_28 rfl 1 rfl rfl ?_
      refine cg_B_factors (pc2 := 32) hC hi_X5_standsAfter_X5 lk_X5_standsAfter_2 dX5_standsAfter_29 rfl ?_
      refine jj_iload (pc2 := 34) hC dX5_standsAfter_32 0 rfl rfl ?_
      refine cl_B_factors (pc2 := 35) hC hV.1 dX5_standsAfter_34 rfl ?_
      have hV := hV.2
      refine jj_i2l (pc2 := 36) hC dX5_standsAfter_35 rfl ?_
      refine jj_aload_n (pc2 := 37) hC dX5_standsAfter_36 rfl 4 rfl rfl ?_
      refine jj_aload_n (pc2 := 38) hC dX5_standsAfter_37 rfl 1 rfl rfl ?_
      refine cg_B_cells (pc2 := 41) hC hi_X5_standsAfter_X5 lk_X5_standsAfter_3 dX5_standsAfter_38 rfl ?_
      refine jj_iload (pc2 := 43) hC dX5_standsAfter_41 0 rfl rfl ?_
      refine cl_B_cells (pc2 := 44) hC hV.1 dX5_standsAfter_43 rfl ?_
      have hV := hV.2
      refine jj_aload_n (pc2 := 45) hC dX5_standsAfter_44 rfl 3 rfl rfl ?_
      refine jj_iload (pc2 := 47) hC dX5_standsAfter_45 5 rfl rfl ?_
      refine jj_cVIp (pc2 := 50) (wd := wc_d Y X cs ad) (g := g0) (rest := [.long ((g0.2.2 58 y2.toNatClampNeg).toInt64), .long x5]) hC (Y.length + 10) (jx_at (V := wc_W cs ad g0) rfl) rfl rfl (kc_X1_valueAfter_newCells l D cs Y X ad (g0.2.2 57 y2.toNatClampNeg) x4 g0 _ hV) (cwV 3 hC.1.2.2.2.2 gX5_standsAfter_X1_valueAfter rfl rfl rfl (by decide +kernel) ⟨by decide, by decide⟩) rfl (Nat.le_of_ble_eq_true rfl) _ rfl dX5_standsAfter_47 ⟨Nat.zero_le _, Nat.zero_le _⟩ rfl (fun r3 hV => ?_)
      refine jj_i2l (pc2 := 51) hC dX5_standsAfter_50 rfl ?_
      refine jj_lmul (pc2 := 52) hC dX5_standsAfter_51 rfl ?_
      refine jj_ladd (pc2 := 53) hC dX5_standsAfter_52 rfl ?_
      refine jj_topl (fun y4 ey4 => ?_)
      have hV := hV y4 ey4
      refine jj_lstore (pc2 := 55) hC [(5, .long y4), (8, .int y2), (0, .ref (ad 9)), (1, .int x1), (2, .ref (ad 31)), (3, .ref (ad 10)), (4, .int x4), (7, .int x7)] dX5_standsAfter_53 (by decide) rfl rfl ?_
      refine jj_iinc (pc2 := 58) hC (x7 + 1) [(7, .int (x7 + 1)), (5, .long y4), (8, .int y2), (0, .ref (ad 9)), (1, .int x1), (2, .ref (ad 31)), (3, .ref (ad 10)), (4, .int x4)] dX5_standsAfter_55 7 rfl rfl (by decide) rfl rfl ?_
      refine jj_goto hC 6 dX5_standsAfter_58 (by decide) ?_
      exact jj_sub (lv2 := [(0, .ref (ad 9)), (1, .int x1), (2, .ref (ad 31)), (3, .ref (ad 10)), (4, .int x4), (5, .long y4), (7, .int (x7 + 1))]) [3, 4, 5, 6, 7, 1, 0] rfl (ih y4 (x7 + 1) hV)
set_option maxHeartbeats 4000000 in
set_option maxRecDepth 100000 in
theorem kc_X5_standsAfter_newCells (l : Launch) (D : va_G) (cs : Nat → ClassId) (Y X : va_W) (ad : Nat → Nat) (a1 : Int32) (a4 : Int32) (g0 : cm_M) (Post : Int32 → Prop) (hV : vc_X5_standsAfter 26 a1 a4 g0 Post) : JI (wc_d Y X cs ad) D vwCl (jt_tys cs) l yX5_standsAfter wsX5_standsAfter rm_X5_standsAfter 0 0 [.ref (ad 9), .int a1, .ref (ad 31), .ref (ad 10), .int a4] g0 (fun r g2 => Post r ∧ g2 = g0) := by
  refine jj_metI (cc := cX5_standsAfter) (nL := 9) (ret := (some .boolean)) (by decide) rfl (Nat.le_of_ble_eq_true rfl) [(0, .ref (ad 9)), (1, .int a1), (2, .ref (ad 31)), (3, .ref (ad 10)), (4, .int a4)] rfl ?_
  intro p e s m args below meth c hC hnm
  rw [vc_X5_standsAfter] at hV
  refine jj_lconst (pc2 := 1) hC 0 dX5_standsAfter_0 (by decide) rfl ?_
  refine jj_lstore (pc2 := 3) hC [(5, .long 0), (0, .ref (ad 9)), (1, .int a1), (2, .ref (ad 31)), (3, .ref (ad 10)), (4, .int a4)] dX5_standsAfter_1 (by decide) rfl rfl ?_
  refine jj_iconst (pc2 := 4) hC 0 dX5_standsAfter_3 (by decide) rfl ?_
  refine jj_istore (pc2 := 6) hC [(7, .int 0), (5, .long 0), (0, .ref (ad 9)), (1, .int a1), (2, .ref (ad 31)), (3, .ref (ad 10)), (4, .int a4)] dX5_standsAfter_4 (by decide) rfl rfl ?_
  obtain ⟨n7, hV⟩ := hV
  refine jj_sub (lv2 := [(0, .ref (ad 9)), (1, .int a1), (2, .ref (ad 31)), (3, .ref (ad 10)), (4, .int a4), (5, .long 0), (7, .int 0)]) [2, 3, 4, 5, 6, 1, 0] rfl (ac_X5_standsAfter_newCells_6 hC a1 a4 Post _ (fun y5 hV => ?_) n7 0 0 hV)
  refine jj_lload (pc2 := 63) hC dX5_standsAfter_61 2 rfl rfl ?_
  refine jj_aload_n (pc2 := 64) hC dX5_standsAfter_63 rfl 0 rfl rfl ?_
  refine cg_B_leasts (pc2 := 67) hC hi_X5_standsAfter_X5 lk_X5_standsAfter_4 dX5_standsAfter_64 rfl ?_
  refine jj_iload_n (pc2 := 68) hC dX5_standsAfter_67 rfl 1 rfl rfl ?_
  refine cl_B_leasts (pc2 := 69) hC hV.1 dX5_standsAfter_68 rfl ?_
  have hV := hV.2
  refine jj_i2l (pc2 := 70) hC dX5_standsAfter_69 rfl ?_
  refine jj_lcmp (pc2 := 71) hC dX5_standsAfter_70 rfl ?_
  refine jj_if_lt (pc2 := 74) hC 78 dX5_standsAfter_71 (by decide) rfl (fun h6 => ?_) (fun h6 => ?_)
  · have hV := hV.1 h6
    refine jj_iconst (pc2 := 79) hC 0 dX5_standsAfter_78 (by decide) rfl ?_
    exact jj_zret hC jj_nb0 dX5_standsAfter_79 ⟨hV, rfl⟩
  · have hV := hV.2 h6
    refine jj_iconst (pc2 := 75) hC 1 dX5_standsAfter_74 (by decide) rfl ?_
    refine jj_goto hC 79 dX5_standsAfter_75 (by decide) ?_
    exact jj_zret hC jj_nb1 dX5_standsAfter_79 ⟨hV, rfl⟩
theorem hi_X1_watch_X1 : ∀ w ∈ u_ws RX1 TX1 8, w ∈ wsX1_watch := fun _ h => List.mem_cons_of_mem _ (List.mem_append_left _ (List.mem_append_right _ h))
theorem lk_X1_watch_2 : Cond.fieldLink RX1 18 "PartedHouse$Arrivals" "stands" "[Z" ∈ wsX1_watch := List.mem_of_getElem? (i := 2) rfl
theorem lk_X1_watch_1 : Cond.fieldLink RX1 46 "PartedHouse$Arrivals" "size" "I" ∈ wsX1_watch := List.mem_of_getElem? (i := 1) rfl
theorem lk_X1_watch_3 : Cond.fieldLink RX1 15 "PartedHouse$Arrivals" "soundWays" "[I" ∈ wsX1_watch := List.mem_of_getElem? (i := 3) rfl
abbrev rm_X1_watch : Room := { frames := 2, cells := 0, slots := 0, locals := 52 }
def vc_X1_watch_3 (x2 : Int32) (K36 : cm_M → Prop) (Post : cm_M → Prop) : Nat → Int32 → cm_M → Prop
  | 0, _, _ => False
  | f + 1, x4, g => ((((1 : Int32) <<< ((g.2.2 67 0) &&& 31)) ≤ x4) → (K36 g)) ∧ ((¬ ((1 : Int32) <<< ((g.2.2 67 0) &&& 31)) ≤ x4) → (vc_X5_standsAfter 26 x2 x4 g (fun (r2 : Int32) => (vp_in x4 64) ∧ ((jj_nb r2) ∧ (∀ g3 : cm_M, g3 = cm_a g 62 x4 r2 → (vc_X1_watch_3 x2 K36 Post f (x4 + 1) g3))))))
def vc_X1_watch (a2 : Int32) (g0 : cm_M) (Post : cm_M → Prop) : Prop := ∃ n7 : Nat, vc_X1_watch_3 a2 (fun (g4 : cm_M) => vc_X1_countInto 61 g4 (fun (g6 : cm_M) => Post g6)) Post n7 0 g0
set_option maxHeartbeats 4000000 in
set_option maxRecDepth 100000 in
theorem ac_X1_watch_3 {p : Program} {l : Launch} {e : Env} {s : State} {m : MethodId} {args : Array Value} {below : List Frame} {meth : Method} {c : Code} {D : va_G} {cs : Nat → ClassId} {Y X : va_W} {ad : Nat → Nat} {g0 : cm_M} (hC : JC p s m args meth c D vwCl (va_A (wc_d Y X cs ad g0) s.heap.size) 5 cX1_watch none wsX1_watch RX1 (jt_tys cs)) (x2 : Int32) (Post : cm_M → Prop) (K36 : cm_M → Prop) (hK36 : ∀ (g : cm_M) , K36 g → JJ (wc_d Y X cs ad) p l e rm_X1_watch s m args below meth c D vwCl (va_A (wc_d Y X cs ad g0) s.heap.size) 5 0 0 (MQ below (jj_QV (wc_d Y X cs ad) D vwCl (jt_tys cs) g0 s.heap.size Post) args s 0 0 (va_A (wc_d Y X cs ad g0) s.heap.size)) 36 [(0, .ref (ad 10))] [] g) : ∀ (f : Nat) (x4 : Int32) (g : cm_M), vc_X1_watch_3 x2 K36 Post f x4 g → JJ (wc_d Y X cs ad) p l e rm_X1_watch s m args below meth c D vwCl (va_A (wc_d Y X cs ad g0) s.heap.size) 5 0 0 (MQ below (jj_QV (wc_d Y X cs ad) D vwCl (jt_tys cs) g0 s.heap.size Post) args s 0 0 (va_A (wc_d Y X cs ad g0) s.heap.size)) 3 [(0, .ref (ad 10)), (1, .ref (ad 9)), (2, .int x2), (3, .ref (ad 31)), (4, .int x4)] [] g := by
  intro f
  induction f with
  | zero => intro x4 g hV; exact hV.elim
  | succ f ih =>
    intro x4 g hV
    rw [vc_X1_watch_3] at hV
    refine jj_iload (pc2 := 5) hC dX1_watch_3 4 rfl rfl ?_
    refine jj_iconst (pc2 := 6) hC 1 dX1_watch_5 (by decide) rfl ?_
    refine jj_aload_n (pc2 := 7) hC dX1_watch_6 rfl 0 rfl rfl ?_
    refine cg_V_size (pc2 := 10) hC hi_X1_watch_X1 lk_X1_watch_1 dX1_watch_7 rfl ?_
    refine jj_ishl (pc2 := 11) hC dX1_watch_10 rfl ?_
    refine jj_icmp_ge (pc2 := 14) hC 36 dX1_watch_11 (by decide) rfl (fun h1 => ?_) (fun h1 => ?_)
    · have hV := hV.1 h1
      exact jj_sub (lv2 := [(0, .ref (ad 10))]) [0] rfl (hK36 g hV)
    · have hV := hV.2 h1
      refine jj_aload_n (pc2 := 15) hC dX1_watch_14 rfl 0 rfl rfl ?_
      refine cg_V_stands (pc2 := 18) hC hi_X1_watch_X1 lk_X1_watch_2 dX1_watch_15 rfl ?_
      refine jj_iload (pc2 := 20) hC dX1_watch_18 4 rfl rfl ?_
      refine jj_aload_n (pc2 := 21) hC dX1_watch_20 rfl 1 rfl rfl ?_
      refine jj_iload_n (pc2 := 22) hC dX1_watch_21 rfl 2 rfl rfl ?_
      refine jj_aload_n (pc2 := 23) hC dX1_watch_22 rfl 3 rfl rfl ?_
      refine jj_aload_n (pc2 := 24) hC dX1_watch_23 rfl 0 rfl rfl ?_
      refine jj_iload (pc2 := 26) hC dX1_watch_24 4 rfl rfl ?_
      refine jj_cVIp (pc2 := 29) (wd := wc_d Y X cs ad) (g := g) (rest := [.int x4, .ref (ad 56)]) hC (Y.length + 9) (jx_at (V := wc_W cs ad g) rfl) rfl rfl (kc_X5_standsAfter_newCells l D cs Y X ad x2 x4 g _ hV) (cwV 4 hC.1.2.2.2.2 gX1_watch_X5_standsAfter rfl rfl rfl (by decide +kernel) ⟨by decide, by decide⟩) rfl (Nat.le_of_ble_eq_true rfl) _ rfl dX1_watch_26 ⟨Nat.zero_le _, Nat.zero_le _⟩ rfl (fun r2 hV => ?_)
      refine ct_V_stands (pc2 := 30) hC hV.1 hV.2.1 dX1_watch_29 rfl (fun g3 eg3 => ?_)
      have hV := hV.2.2 g3 eg3
      refine jj_iinc (pc2 := 33) hC (x4 + 1) [(4, .int (x4 + 1)), (0, .ref (ad 10)), (1, .ref (ad 9)), (2, .int x2), (3, .ref (ad 31))] dX1_watch_30 4 rfl rfl (by decide) rfl rfl ?_
      refine jj_goto hC 3 dX1_watch_33 (by decide) ?_
      exact jj_sub (lv2 := [(0, .ref (ad 10)), (1, .ref (ad 9)), (2, .int x2), (3, .ref (ad 31)), (4, .int (x4 + 1))]) [1, 2, 3, 4, 0] rfl (ih (x4 + 1) g3 hV)
set_option maxHeartbeats 4000000 in
set_option maxRecDepth 100000 in
theorem kc_X1_watch (l : Launch) (D : va_G) (cs : Nat → ClassId) (Y X : va_W) (ad : Nat → Nat) (a2 : Int32) (g0 : cm_M) (Post : cm_M → Prop) (hV : vc_X1_watch a2 g0 Post) : JV (wc_d Y X cs ad) D vwCl (jt_tys cs) l yX1_watch wsX1_watch rm_X1_watch 0 0 [.ref (ad 10), .ref (ad 9), .int a2, .ref (ad 31)] g0 Post := by
  refine jj_metV (cc := cX1_watch) (nL := 5) (ret := none) (by decide) rfl (Nat.le_of_ble_eq_true rfl) [(0, .ref (ad 10)), (1, .ref (ad 9)), (2, .int a2), (3, .ref (ad 31))] rfl ?_
  intro p e s m args below meth c hC hnm
  rw [vc_X1_watch] at hV
  refine jj_iconst (pc2 := 1) hC 0 dX1_watch_0 (by decide) rfl ?_
  refine jj_istore (pc2 := 3) hC [(4, .int 0), (0, .ref (ad 10)), (1, .ref (ad 9)), (2, .int a2), (3, .ref (ad 31))] dX1_watch_1 (by decide) rfl rfl ?_
  obtain ⟨n7, hV⟩ := hV
  refine jj_sub (lv2 := [(0, .ref (ad 10)), (1, .ref (ad 9)), (2, .int a2), (3, .ref (ad 31)), (4, .int 0)]) [1, 2, 3, 4, 0] rfl (ac_X1_watch_3 hC a2 Post _ (fun g4 hV => ?_) n7 0 g0 hV)
  refine jj_aload_n (pc2 := 37) hC dX1_watch_36 rfl 0 rfl rfl ?_
  refine jj_aload_n (pc2 := 38) hC dX1_watch_37 rfl 0 rfl rfl ?_
  refine cg_V_soundWays (pc2 := 41) hC hi_X1_watch_X1 lk_X1_watch_3 dX1_watch_38 rfl ?_
  refine jj_cVV (pc2 := 44) (wd := wc_d Y X cs ad) (g := g4) (rest := []) hC (Y.length + 10) (jx_at (V := wc_W cs ad g4) rfl) rfl rfl (kc_X1_countInto_soundWays l D cs Y X ad  g4 _ hV) (cwV 1 hC.1.2.2.2.2 gX1_watch_X1_countInto rfl rfl rfl (by decide +kernel) ⟨by decide, by decide⟩) rfl (Nat.le_of_ble_eq_true rfl) _ rfl dX1_watch_41 ⟨Nat.zero_le _, Nat.zero_le _⟩ rfl (fun g6 hV => ?_)
  exact jj_vret hC dX1_watch_44 hV
theorem hi_X1_firstToBreak_X1 : ∀ w ∈ u_ws RX1 TX1 8, w ∈ wsX1_firstToBreak := fun _ h => List.mem_cons_of_mem _ (List.mem_append_right _ h)
theorem lk_X1_firstToBreak_3 : Cond.fieldLink RX1 9 "PartedHouse$Arrivals" "ways" "[I" ∈ wsX1_firstToBreak := List.mem_of_getElem? (i := 3) rfl
theorem lk_X1_firstToBreak_2 : Cond.fieldLink RX1 15 "PartedHouse$Arrivals" "soundWays" "[I" ∈ wsX1_firstToBreak := List.mem_of_getElem? (i := 2) rfl
theorem lk_X1_firstToBreak_1 : Cond.fieldLink RX1 46 "PartedHouse$Arrivals" "size" "I" ∈ wsX1_firstToBreak := List.mem_of_getElem? (i := 1) rfl
abbrev rm_X1_firstToBreak : Room := { frames := 1, cells := 0, slots := 0, locals := 22 }
def vc_X1_firstToBreak_2 (x1 : Int32) (x2 : Int32) (g0 : cm_M) (Post : Int32 → Prop) : Nat → Int32 → Prop
  | 0, _ => False
  | f + 1, x3 => (((g0.2.2 67 0) ≤ x3) → (Post 0)) ∧ ((¬ (g0.2.2 67 0) ≤ x3) → (∀ y2 : Int32, y2 = x1 ||| ((1 : Int32) <<< (x3 &&& 31)) → (vc_X1_canCome x3 x1 g0 (fun (r3 : Int32) => ((r3 = 0) → (vc_X1_firstToBreak_2 x1 x2 g0 Post f (x3 + 1))) ∧ ((¬ r3 = 0) → (((¬ x2 = 0) → (Post x3)) ∧ ((x2 = 0) → ((vp_in y2 64) ∧ ((vp_in y2 64) ∧ ((((g0.2.2 60 y2.toNatClampNeg) ≤ (g0.2.2 61 y2.toNatClampNeg)) → (vc_X1_firstToBreak_2 x1 x2 g0 Post f (x3 + 1))) ∧ ((¬ (g0.2.2 60 y2.toNatClampNeg) ≤ (g0.2.2 61 y2.toNatClampNeg)) → (Post x3))))))))))))
def vc_X1_firstToBreak (a1 : Int32) (a2 : Int32) (g0 : cm_M) (Post : Int32 → Prop) : Prop := ∃ n7 : Nat, vc_X1_firstToBreak_2 a1 a2 g0 Post n7 0
set_option maxHeartbeats 4000000 in
set_option maxRecDepth 100000 in
theorem ac_X1_firstToBreak_2 {p : Program} {l : Launch} {e : Env} {s : State} {m : MethodId} {args : Array Value} {below : List Frame} {meth : Method} {c : Code} {D : va_G} {cs : Nat → ClassId} {Y X : va_W} {ad : Nat → Nat} {g0 : cm_M} (hC : JC p s m args meth c D vwCl (va_A (wc_d Y X cs ad g0) s.heap.size) 5 cX1_firstToBreak (some .int) wsX1_firstToBreak RX1 (jt_tys cs)) (x1 : Int32) (x2 : Int32) (Post : Int32 → Prop) : ∀ (f : Nat) (x3 : Int32), vc_X1_firstToBreak_2 x1 x2 g0 Post f x3 → JJ (wc_d Y X cs ad) p l e rm_X1_firstToBreak s m args below meth c D vwCl (va_A (wc_d Y X cs ad g0) s.heap.size) 5 0 0 (MQ below (jj_QI (wc_d Y X cs ad) D vwCl (jt_tys cs) g0 s.heap.size (fun r g2 => Post r ∧ g2 = g0)) args s 0 0 (va_A (wc_d Y X cs ad g0) s.heap.size)) 2 [(0, .ref (ad 10)), (1, .int x1), (2, .int x2), (3, .int x3)] [] g0 := by
  intro f
  induction f with
  | zero => intro x3 hV; exact hV.elim
  | succ f ih =>
    intro x3 hV
    rw [vc_X1_firstToBreak_2] at hV
    refine jj_iload_n (pc2 := 3) hC dX1_firstToBreak_2 rfl 3 rfl rfl ?_
    refine jj_aload_n (pc2 := 4) hC dX1_firstToBreak_3 rfl 0 rfl rfl ?_
    refine cg_V_size (pc2 := 7) hC hi_X1_firstToBreak_X1 lk_X1_firstToBreak_1 dX1_firstToBreak_4 rfl ?_
    refine jj_icmp_ge (pc2 := 10) hC 55 dX1_firstToBreak_7 (by decide) rfl (fun h1 => ?_) (fun h1 => ?_)
    · have hV := hV.1 h1
      refine jj_iconst (pc2 := 56) hC 0 dX1_firstToBreak_55 (by decide) rfl ?_
      exact jj_iret hC dX1_firstToBreak_56 ⟨hV, rfl⟩
    · have hV := hV.2 h1
      refine jj_iload_n (pc2 := 11) hC dX1_firstToBreak_10 rfl 1 rfl rfl ?_
      refine jj_iconst (pc2 := 12) hC 1 dX1_firstToBreak_11 (by decide) rfl ?_
      refine jj_iload_n (pc2 := 13) hC dX1_firstToBreak_12 rfl 3 rfl rfl ?_
      refine jj_ishl (pc2 := 14) hC dX1_firstToBreak_13 rfl ?_
      refine jj_ior (pc2 := 15) hC dX1_firstToBreak_14 rfl ?_
      refine jj_topi (fun y2 ey2 => ?_)
      have hV := hV y2 ey2
      refine jj_istore (pc2 := 17) hC [(4, .int y2), (0, .ref (ad 10)), (1, .int x1), (2, .int x2), (3, .int x3)] dX1_firstToBreak_15 (by decide) rfl rfl ?_
      refine jj_aload_n (pc2 := 18) hC dX1_firstToBreak_17 rfl 1 rfl rfl ?_
      refine jj_iload_n (pc2 := 19) hC dX1_firstToBreak_18 rfl 4 rfl rfl ?_
      refine jj_iload_n (pc2 := 20) hC dX1_firstToBreak_19 rfl 2 rfl rfl ?_
      refine jj_cVIp (pc2 := 23) (wd := wc_d Y X cs ad) (g := g0) (rest := []) hC (Y.length + 10) (jx_at (V := wc_W cs ad g0) rfl) rfl rfl (kc_X1_canCome l D cs Y X ad x3 x1 g0 _ hV) (cwV 2 hC.1.2.2.2.2 gX1_firstToBreak_X1_canCome rfl rfl rfl (by decide +kernel) ⟨by decide, by decide⟩) rfl (Nat.le_of_ble_eq_true rfl) _ rfl dX1_firstToBreak_20 ⟨Nat.zero_le _, Nat.zero_le _⟩ rfl (fun r3 hV => ?_)
      refine jj_if_eq (pc2 := 26) hC 49 dX1_firstToBreak_23 (by decide) rfl (fun h4 => ?_) (fun h4 => ?_)
      · have hV := hV.1 h4
        refine jj_iinc (pc2 := 52) hC (x3 + 1) [(3, .int (x3 + 1)), (4, .int y2), (0, .ref (ad 10)), (1, .int x1), (2, .int x2)] dX1_firstToBreak_49 4 rfl rfl (by decide) rfl rfl ?_
        refine jj_goto hC 2 dX1_firstToBreak_52 (by decide) ?_
        exact jj_sub (lv2 := [(0, .ref (ad 10)), (1, .int x1), (2, .int x2), (3, .int (x3 + 1))]) [2, 3, 4, 0] rfl (ih (x3 + 1) hV)
      · have hV := hV.2 h4
        refine jj_iload_n (pc2 := 27) hC dX1_firstToBreak_26 rfl 3 rfl rfl ?_
        refine jj_if_ne (pc2 := 30) hC 47 dX1_firstToBreak_27 (by decide) rfl (fun h5 => ?_) (fun h5 => ?_)
        · have hV := hV.1 h5
          refine jj_iload_n (pc2 := 48) hC dX1_firstToBreak_47 rfl 4 rfl rfl ?_
          exact jj_iret hC dX1_firstToBreak_48 ⟨hV, rfl⟩
        · have hV := hV.2 h5
          refine jj_aload_n (pc2 := 31) hC dX1_firstToBreak_30 rfl 1 rfl rfl ?_
          refine cg_V_soundWays (pc2 := 34) hC hi_X1_firstToBreak_X1 lk_X1_firstToBreak_2 dX1_firstToBreak_31 rfl ?_
          refine jj_iload (pc2 := 36) hC dX1_firstToBreak_34 0 rfl rfl ?_
          refine cl_V_soundWays (pc2 := 37) hC hV.1 dX1_firstToBreak_36 rfl ?_
          have hV := hV.2
          refine jj_aload_n (pc2 := 38) hC dX1_firstToBreak_37 rfl 1 rfl rfl ?_
          refine cg_V_ways (pc2 := 41) hC hi_X1_firstToBreak_X1 lk_X1_firstToBreak_3 dX1_firstToBreak_38 rfl ?_
          refine jj_iload (pc2 := 43) hC dX1_firstToBreak_41 0 rfl rfl ?_
          refine cl_V_ways (pc2 := 44) hC hV.1 dX1_firstToBreak_43 rfl ?_
          have hV := hV.2
          refine jj_icmp_ge (pc2 := 47) hC 49 dX1_firstToBreak_44 (by decide) rfl (fun h6 => ?_) (fun h6 => ?_)
          · have hV := hV.1 h6
            refine jj_iinc (pc2 := 52) hC (x3 + 1) [(3, .int (x3 + 1)), (4, .int y2), (0, .ref (ad 10)), (1, .int x1), (2, .int x2)] dX1_firstToBreak_49 4 rfl rfl (by decide) rfl rfl ?_
            refine jj_goto hC 2 dX1_firstToBreak_52 (by decide) ?_
            exact jj_sub (lv2 := [(0, .ref (ad 10)), (1, .int x1), (2, .int x2), (3, .int (x3 + 1))]) [2, 3, 4, 0] rfl (ih (x3 + 1) hV)
          · have hV := hV.2 h6
            refine jj_iload_n (pc2 := 48) hC dX1_firstToBreak_47 rfl 4 rfl rfl ?_
            exact jj_iret hC dX1_firstToBreak_48 ⟨hV, rfl⟩
set_option maxHeartbeats 4000000 in
set_option maxRecDepth 100000 in
theorem kc_X1_firstToBreak (l : Launch) (D : va_G) (cs : Nat → ClassId) (Y X : va_W) (ad : Nat → Nat) (a1 : Int32) (a2 : Int32) (g0 : cm_M) (Post : Int32 → Prop) (hV : vc_X1_firstToBreak a1 a2 g0 Post) : JI (wc_d Y X cs ad) D vwCl (jt_tys cs) l yX1_firstToBreak wsX1_firstToBreak rm_X1_firstToBreak 0 0 [.ref (ad 10), .int a1, .int a2] g0 (fun r g2 => Post r ∧ g2 = g0) := by
  refine jj_metI (cc := cX1_firstToBreak) (nL := 5) (ret := (some .int)) (by decide) rfl (Nat.le_of_ble_eq_true rfl) [(0, .ref (ad 10)), (1, .int a1), (2, .int a2)] rfl ?_
  intro p e s m args below meth c hC hnm
  rw [vc_X1_firstToBreak] at hV
  refine jj_iconst (pc2 := 1) hC 0 dX1_firstToBreak_0 (by decide) rfl ?_
  refine jj_istore_n (pc2 := 2) hC [(3, .int 0), (0, .ref (ad 10)), (1, .int a1), (2, .int a2)] dX1_firstToBreak_1 rfl (by decide) rfl rfl ?_
  obtain ⟨n7, hV⟩ := hV
  refine jj_sub (lv2 := [(0, .ref (ad 10)), (1, .int a1), (2, .int a2), (3, .int 0)]) [1, 2, 3, 0] rfl (ac_X1_firstToBreak_2 hC a1 a2 Post n7 0 hV)
theorem hi_X1_ofFirstBroken_X1 : ∀ w ∈ u_ws RX1 TX1 8, w ∈ wsX1_ofFirstBroken := fun _ h => List.mem_cons_of_mem _ (List.mem_append_right _ h)
theorem lk_X1_ofFirstBroken_4 : Cond.fieldLink RX1 18 "PartedHouse$Arrivals" "stands" "[Z" ∈ wsX1_ofFirstBroken := List.mem_of_getElem? (i := 4) rfl
theorem lk_X1_ofFirstBroken_5 : Cond.fieldLink RX1 22 "PartedHouse$Arrivals" "numbers" "[I" ∈ wsX1_ofFirstBroken := List.mem_of_getElem? (i := 5) rfl
theorem lk_X1_ofFirstBroken_3 : Cond.fieldLink RX1 15 "PartedHouse$Arrivals" "soundWays" "[I" ∈ wsX1_ofFirstBroken := List.mem_of_getElem? (i := 3) rfl
theorem lk_X1_ofFirstBroken_2 : Cond.fieldLink RX1 9 "PartedHouse$Arrivals" "ways" "[I" ∈ wsX1_ofFirstBroken := List.mem_of_getElem? (i := 2) rfl
theorem lk_X1_ofFirstBroken_1 : Cond.fieldLink RX1 46 "PartedHouse$Arrivals" "size" "I" ∈ wsX1_ofFirstBroken := List.mem_of_getElem? (i := 1) rfl
abbrev rm_X1_ofFirstBroken : Room := { frames := 2, cells := 0, slots := 0, locals := 46 }
def vc_X1_ofFirstBroken_39 (x1 : Int32) (g0 : cm_M) (K86 : Int32 → Prop) (Post : Int32 → Prop) : Nat → Int32 → Int32 → Int32 → Int32 → Prop
  | 0, _, _, _, _ => False
  | f + 1, x2, x3, x4, x5 => ((x1 < x5) → (K86 x3)) ∧ ((¬ x1 < x5) → (((¬ x4 = 0) → (vc_X1_firstToBreak x2 1 g0 (fun (r6 : Int32) => ∀ y7 : Int32, y7 = x2 ||| ((1 : Int32) <<< (r6 &&& 31)) → (vc_X1_ofFirstBroken_39 x1 g0 K86 Post f y7 r6 1 (x5 + 1))))) ∧ ((x4 = 0) → ((vp_in x2 64) ∧ (((¬ (g0.2.2 62 x2.toNatClampNeg) = 0) → (vc_X1_firstToBreak x2 0 g0 (fun (r9 : Int32) => ∀ y10 : Int32, y10 = x2 ||| ((1 : Int32) <<< (r9 &&& 31)) → (vc_X1_ofFirstBroken_39 x1 g0 K86 Post f y10 r9 0 (x5 + 1))))) ∧ (((g0.2.2 62 x2.toNatClampNeg) = 0) → (vc_X1_firstToBreak x2 1 g0 (fun (r11 : Int32) => ∀ y12 : Int32, y12 = x2 ||| ((1 : Int32) <<< (r11 &&& 31)) → (vc_X1_ofFirstBroken_39 x1 g0 K86 Post f y12 r11 1 (x5 + 1))))))))))
def vc_X1_ofFirstBroken (a1 : Int32) (g0 : cm_M) (Post : Int32 → Prop) : Prop := ((a1 < 0) → (Post (-1))) ∧ ((¬ a1 < 0) → ((((g0.2.2 67 0) ≤ a1) → (Post (-1))) ∧ ((¬ (g0.2.2 67 0) ≤ a1) → (((¬ (g0.2.2 60 (0 : Int32).toNatClampNeg) = (g0.2.2 61 (0 : Int32).toNatClampNeg)) → (∃ n14 : Nat, vc_X1_ofFirstBroken_39 a1 g0 (fun (y13 : Int32) => (vp_in y13 6) ∧ (Post (g0.2.2 63 y13.toNatClampNeg))) Post n14 0 0 0 0)) ∧ (((g0.2.2 60 (0 : Int32).toNatClampNeg) = (g0.2.2 61 (0 : Int32).toNatClampNeg)) → (Post (-1)))))))
set_option maxHeartbeats 4000000 in
set_option maxRecDepth 100000 in
theorem ac_X1_ofFirstBroken_39 {p : Program} {l : Launch} {e : Env} {s : State} {m : MethodId} {args : Array Value} {below : List Frame} {meth : Method} {c : Code} {D : va_G} {cs : Nat → ClassId} {Y X : va_W} {ad : Nat → Nat} {g0 : cm_M} (hC : JC p s m args meth c D vwCl (va_A (wc_d Y X cs ad g0) s.heap.size) 6 cX1_ofFirstBroken (some .int) wsX1_ofFirstBroken RX1 (jt_tys cs)) (x1 : Int32) (Post : Int32 → Prop) (K86 : Int32 → Prop) (hK86 : ∀ (z3 : Int32) , K86 z3 → JJ (wc_d Y X cs ad) p l e rm_X1_ofFirstBroken s m args below meth c D vwCl (va_A (wc_d Y X cs ad g0) s.heap.size) 6 0 0 (MQ below (jj_QI (wc_d Y X cs ad) D vwCl (jt_tys cs) g0 s.heap.size (fun r g2 => Post r ∧ g2 = g0)) args s 0 0 (va_A (wc_d Y X cs ad g0) s.heap.size)) 86 [(0, .ref (ad 10)), (3, .int z3)] [] g0) : ∀ (f : Nat) (x2 : Int32) (x3 : Int32) (x4 : Int32) (x5 : Int32), vc_X1_ofFirstBroken_39 x1 g0 K86 Post f x2 x3 x4 x5 → JJ (wc_d Y X cs ad) p l e rm_X1_ofFirstBroken s m args below meth c D vwCl (va_A (wc_d Y X cs ad g0) s.heap.size) 6 0 0 (MQ below (jj_QI (wc_d Y X cs ad) D vwCl (jt_tys cs) g0 s.heap.size (fun r g2 => Post r ∧ g2 = g0)) args s 0 0 (va_A (wc_d Y X cs ad g0) s.heap.size)) 39 [(0, .ref (ad 10)), (1, .int x1), (2, .int x2), (3, .int x3), (4, .int x4), (5, .int x5)] [] g0 := by
  intro f
  induction f with
  | zero => intro x2 x3 x4 x5 hV; exact hV.elim
  | succ f ih =>
    intro x2 x3 x4 x5 hV
    rw [vc_X1_ofFirstBroken_39] at hV
    refine jj_iload (pc2 := 41) hC dX1_ofFirstBroken_39 5 rfl rfl ?_
    refine jj_iload_n (pc2 := 42) hC dX1_ofFirstBroken_41 rfl 1 rfl rfl ?_
    refine jj_icmp_gt (pc2 := 45) hC 86 dX1_ofFirstBroken_42 (by decide) rfl (fun h4 => ?_) (fun h4 => ?_)
    · have hV := hV.1 h4
      exact jj_sub (lv2 := [(0, .ref (ad 10)), (3, .int x3)]) [0, 3] rfl (hK86 x3 hV)
    · have hV := hV.2 h4
      refine jj_iload (pc2 := 47) hC dX1_ofFirstBroken_45 4 rfl rfl ?_
      refine jj_if_ne (pc2 := 50) hC 59 dX1_ofFirstBroken_47 (by decide) rfl (fun h5 => ?_) (fun h5 => ?_)
      · have hV := hV.1 h5
        refine jj_iconst (pc2 := 60) hC 1 dX1_ofFirstBroken_59 (by decide) rfl ?_
        refine jj_goto hC 64 dX1_ofFirstBroken_60 (by decide) ?_
        refine jj_istore (pc2 := 66) hC [(4, .int 1), (0, .ref (ad 10)), (1, .int x1), (2, .int x2), (3, .int x3), (5, .int x5)] dX1_ofFirstBroken_64 (by decide) rfl rfl ?_
        refine jj_aload_n (pc2 := 67) hC dX1_ofFirstBroken_66 rfl 1 rfl rfl ?_
        refine jj_iload_n (pc2 := 68) hC dX1_ofFirstBroken_67 rfl 3 rfl rfl ?_
        refine jj_iload (pc2 := 70) hC dX1_ofFirstBroken_68 0 rfl rfl ?_
        refine jj_cVIp (pc2 := 73) (wd := wc_d Y X cs ad) (g := g0) (rest := []) hC (Y.length + 10) (jx_at (V := wc_W cs ad g0) rfl) rfl rfl (kc_X1_firstToBreak l D cs Y X ad x2 1 g0 _ hV) (cwV 2 hC.1.2.2.2.2 gX1_ofFirstBroken_X1_firstToBreak rfl rfl rfl (by decide +kernel) ⟨by decide, by decide⟩) rfl (Nat.le_of_ble_eq_true rfl) _ rfl dX1_ofFirstBroken_70 ⟨Nat.zero_le _, Nat.zero_le _⟩ rfl (fun r6 hV => ?_)
        refine jj_istore_n (pc2 := 74) hC [(3, .int r6), (4, .int 1), (0, .ref (ad 10)), (1, .int x1), (2, .int x2), (5, .int x5)] dX1_ofFirstBroken_73 rfl (by decide) rfl rfl ?_
        refine jj_iload_n (pc2 := 75) hC dX1_ofFirstBroken_74 rfl 4 rfl rfl ?_
        refine jj_iconst (pc2 := 76) hC 1 dX1_ofFirstBroken_75 (by decide) rfl ?_
        refine jj_iload_n (pc2 := 77) hC dX1_ofFirstBroken_76 rfl 0 rfl rfl ?_
        refine jj_ishl (pc2 := 78) hC dX1_ofFirstBroken_77 rfl ?_
        refine jj_ior (pc2 := 79) hC dX1_ofFirstBroken_78 rfl ?_
        refine jj_topi (fun y7 ey7 => ?_)
        have hV := hV y7 ey7
        refine jj_istore_n (pc2 := 80) hC [(2, .int y7), (3, .int r6), (4, .int 1), (0, .ref (ad 10)), (1, .int x1), (5, .int x5)] dX1_ofFirstBroken_79 rfl (by decide) rfl rfl ?_
        refine jj_iinc (pc2 := 83) hC (x5 + 1) [(5, .int (x5 + 1)), (2, .int y7), (3, .int r6), (4, .int 1), (0, .ref (ad 10)), (1, .int x1)] dX1_ofFirstBroken_80 5 rfl rfl (by decide) rfl rfl ?_
        refine jj_goto hC 39 dX1_ofFirstBroken_83 (by decide) ?_
        exact jj_sub (lv2 := [(0, .ref (ad 10)), (1, .int x1), (2, .int y7), (3, .int r6), (4, .int 1), (5, .int (x5 + 1))]) [4, 5, 1, 2, 3, 0] rfl (ih y7 r6 1 (x5 + 1) hV)
      · have hV := hV.2 h5
        refine jj_aload_n (pc2 := 51) hC dX1_ofFirstBroken_50 rfl 0 rfl rfl ?_
        refine cg_V_stands (pc2 := 54) hC hi_X1_ofFirstBroken_X1 lk_X1_ofFirstBroken_4 dX1_ofFirstBroken_51 rfl ?_
        refine jj_iload_n (pc2 := 55) hC dX1_ofFirstBroken_54 rfl 2 rfl rfl ?_
        refine cl_V_stands (pc2 := 56) hC hV.1 dX1_ofFirstBroken_55 rfl ?_
        have hV := hV.2
        refine jj_if_ne (pc2 := 59) hC 63 dX1_ofFirstBroken_56 (by decide) rfl (fun h8 => ?_) (fun h8 => ?_)
        · have hV := hV.1 h8
          refine jj_iconst (pc2 := 64) hC 0 dX1_ofFirstBroken_63 (by decide) rfl ?_
          refine jj_istore (pc2 := 66) hC [(4, .int 0), (0, .ref (ad 10)), (1, .int x1), (2, .int x2), (3, .int x3), (5, .int x5)] dX1_ofFirstBroken_64 (by decide) rfl rfl ?_
          refine jj_aload_n (pc2 := 67) hC dX1_ofFirstBroken_66 rfl 1 rfl rfl ?_
          refine jj_iload_n (pc2 := 68) hC dX1_ofFirstBroken_67 rfl 3 rfl rfl ?_
          refine jj_iload (pc2 := 70) hC dX1_ofFirstBroken_68 0 rfl rfl ?_
          refine jj_cVIp (pc2 := 73) (wd := wc_d Y X cs ad) (g := g0) (rest := []) hC (Y.length + 10) (jx_at (V := wc_W cs ad g0) rfl) rfl rfl (kc_X1_firstToBreak l D cs Y X ad x2 0 g0 _ hV) (cwV 2 hC.1.2.2.2.2 gX1_ofFirstBroken_X1_firstToBreak rfl rfl rfl (by decide +kernel) ⟨by decide, by decide⟩) rfl (Nat.le_of_ble_eq_true rfl) _ rfl dX1_ofFirstBroken_70 ⟨Nat.zero_le _, Nat.zero_le _⟩ rfl (fun r9 hV => ?_)
          refine jj_istore_n (pc2 := 74) hC [(3, .int r9), (4, .int 0), (0, .ref (ad 10)), (1, .int x1), (2, .int x2), (5, .int x5)] dX1_ofFirstBroken_73 rfl (by decide) rfl rfl ?_
          refine jj_iload_n (pc2 := 75) hC dX1_ofFirstBroken_74 rfl 4 rfl rfl ?_
          refine jj_iconst (pc2 := 76) hC 1 dX1_ofFirstBroken_75 (by decide) rfl ?_
          refine jj_iload_n (pc2 := 77) hC dX1_ofFirstBroken_76 rfl 0 rfl rfl ?_
          refine jj_ishl (pc2 := 78) hC dX1_ofFirstBroken_77 rfl ?_
          refine jj_ior (pc2 := 79) hC dX1_ofFirstBroken_78 rfl ?_
          refine jj_topi (fun y10 ey10 => ?_)
          have hV := hV y10 ey10
          refine jj_istore_n (pc2 := 80) hC [(2, .int y10), (3, .int r9), (4, .int 0), (0, .ref (ad 10)), (1, .int x1), (5, .int x5)] dX1_ofFirstBroken_79 rfl (by decide) rfl rfl ?_
          refine jj_iinc (pc2 := 83) hC (x5 + 1) [(5, .int (x5 + 1)), (2, .int y10), (3, .int r9), (4, .int 0), (0, .ref (ad 10)), (1, .int x1)] dX1_ofFirstBroken_80 5 rfl rfl (by decide) rfl rfl ?_
          refine jj_goto hC 39 dX1_ofFirstBroken_83 (by decide) ?_
          exact jj_sub (lv2 := [(0, .ref (ad 10)), (1, .int x1), (2, .int y10), (3, .int r9), (4, .int 0), (5, .int (x5 + 1))]) [4, 5, 1, 2, 3, 0] rfl (ih y10 r9 0 (x5 + 1) hV)
        · have hV := hV.2 h8
          refine jj_iconst (pc2 := 60) hC 1 dX1_ofFirstBroken_59 (by decide) rfl ?_
          refine jj_goto hC 64 dX1_ofFirstBroken_60 (by decide) ?_
          refine jj_istore (pc2 := 66) hC [(4, .int 1), (0, .ref (ad 10)), (1, .int x1), (2, .int x2), (3, .int x3), (5, .int x5)] dX1_ofFirstBroken_64 (by decide) rfl rfl ?_
          refine jj_aload_n (pc2 := 67) hC dX1_ofFirstBroken_66 rfl 1 rfl rfl ?_
          refine jj_iload_n (pc2 := 68) hC dX1_ofFirstBroken_67 rfl 3 rfl rfl ?_
          refine jj_iload (pc2 := 70) hC dX1_ofFirstBroken_68 0 rfl rfl ?_
          refine jj_cVIp (pc2 := 73) (wd := wc_d Y X cs ad) (g := g0) (rest := []) hC (Y.length + 10) (jx_at (V := wc_W cs ad g0) rfl) rfl rfl (kc_X1_firstToBreak l D cs Y X ad x2 1 g0 _ hV) (cwV 2 hC.1.2.2.2.2 gX1_ofFirstBroken_X1_firstToBreak rfl rfl rfl (by decide +kernel) ⟨by decide, by decide⟩) rfl (Nat.le_of_ble_eq_true rfl) _ rfl dX1_ofFirstBroken_70 ⟨Nat.zero_le _, Nat.zero_le _⟩ rfl (fun r11 hV => ?_)
          refine jj_istore_n (pc2 := 74) hC [(3, .int r11), (4, .int 1), (0, .ref (ad 10)), (1, .int x1), (2, .int x2), (5, .int x5)] dX1_ofFirstBroken_73 rfl (by decide) rfl rfl ?_
          refine jj_iload_n (pc2 := 75) hC dX1_ofFirstBroken_74 rfl 4 rfl rfl ?_
          refine jj_iconst (pc2 := 76) hC 1 dX1_ofFirstBroken_75 (by decide) rfl ?_
          refine jj_iload_n (pc2 := 77) hC dX1_ofFirstBroken_76 rfl 0 rfl rfl ?_
          refine jj_ishl (pc2 := 78) hC dX1_ofFirstBroken_77 rfl ?_
          refine jj_ior (pc2 := 79) hC dX1_ofFirstBroken_78 rfl ?_
          refine jj_topi (fun y12 ey12 => ?_)
          have hV := hV y12 ey12
          refine jj_istore_n (pc2 := 80) hC [(2, .int y12), (3, .int r11), (4, .int 1), (0, .ref (ad 10)), (1, .int x1), (5, .int x5)] dX1_ofFirstBroken_79 rfl (by decide) rfl rfl ?_
          refine jj_iinc (pc2 := 83) hC (x5 + 1) [(5, .int (x5 + 1)), (2, .int y12), (3, .int r11), (4, .int 1), (0, .ref (ad 10)), (1, .int x1)] dX1_ofFirstBroken_80 5 rfl rfl (by decide) rfl rfl ?_
          refine jj_goto hC 39 dX1_ofFirstBroken_83 (by decide) ?_
          exact jj_sub (lv2 := [(0, .ref (ad 10)), (1, .int x1), (2, .int y12), (3, .int r11), (4, .int 1), (5, .int (x5 + 1))]) [4, 5, 1, 2, 3, 0] rfl (ih y12 r11 1 (x5 + 1) hV)
set_option maxHeartbeats 4000000 in
set_option maxRecDepth 100000 in
theorem kc_X1_ofFirstBroken (l : Launch) (D : va_G) (cs : Nat → ClassId) (Y X : va_W) (ad : Nat → Nat) (a1 : Int32) (g0 : cm_M) (Post : Int32 → Prop) (hV : vc_X1_ofFirstBroken a1 g0 Post) : JI (wc_d Y X cs ad) D vwCl (jt_tys cs) l yX1_ofFirstBroken wsX1_ofFirstBroken rm_X1_ofFirstBroken 0 0 [.ref (ad 10), .int a1] g0 (fun r g2 => Post r ∧ g2 = g0) := by
  refine jj_metI (cc := cX1_ofFirstBroken) (nL := 6) (ret := (some .int)) (by decide) rfl (Nat.le_of_ble_eq_true rfl) [(0, .ref (ad 10)), (1, .int a1)] rfl ?_
  intro p e s m args below meth c hC hnm
  rw [vc_X1_ofFirstBroken] at hV
  refine jj_iload_n (pc2 := 1) hC dX1_ofFirstBroken_0 rfl 1 rfl rfl ?_
  refine jj_if_lt (pc2 := 4) hC 27 dX1_ofFirstBroken_1 (by decide) rfl (fun h1 => ?_) (fun h1 => ?_)
  · have hV := hV.1 h1
    refine jj_iconst (pc2 := 28) hC (-1) dX1_ofFirstBroken_27 (by decide) rfl ?_
    exact jj_iret hC dX1_ofFirstBroken_28 ⟨hV, rfl⟩
  · have hV := hV.2 h1
    refine jj_iload_n (pc2 := 5) hC dX1_ofFirstBroken_4 rfl 1 rfl rfl ?_
    refine jj_aload_n (pc2 := 6) hC dX1_ofFirstBroken_5 rfl 0 rfl rfl ?_
    refine cg_V_size (pc2 := 9) hC hi_X1_ofFirstBroken_X1 lk_X1_ofFirstBroken_1 dX1_ofFirstBroken_6 rfl ?_
    refine jj_icmp_ge (pc2 := 12) hC 27 dX1_ofFirstBroken_9 (by decide) rfl (fun h2 => ?_) (fun h2 => ?_)
    · have hV := hV.1 h2
      refine jj_iconst (pc2 := 28) hC (-1) dX1_ofFirstBroken_27 (by decide) rfl ?_
      exact jj_iret hC dX1_ofFirstBroken_28 ⟨hV, rfl⟩
    · have hV := hV.2 h2
      refine jj_aload_n (pc2 := 13) hC dX1_ofFirstBroken_12 rfl 0 rfl rfl ?_
      refine cg_V_ways (pc2 := 16) hC hi_X1_ofFirstBroken_X1 lk_X1_ofFirstBroken_2 dX1_ofFirstBroken_13 rfl ?_
      refine jj_iconst (pc2 := 17) hC 0 dX1_ofFirstBroken_16 (by decide) rfl ?_
      refine cl_V_ways (pc2 := 18) hC (jx_lit (by decide) (by decide)) dX1_ofFirstBroken_17 rfl ?_
      refine jj_aload_n (pc2 := 19) hC dX1_ofFirstBroken_18 rfl 0 rfl rfl ?_
      refine cg_V_soundWays (pc2 := 22) hC hi_X1_ofFirstBroken_X1 lk_X1_ofFirstBroken_3 dX1_ofFirstBroken_19 rfl ?_
      refine jj_iconst (pc2 := 23) hC 0 dX1_ofFirstBroken_22 (by decide) rfl ?_
      refine cl_V_soundWays (pc2 := 24) hC (jx_lit (by decide) (by decide)) dX1_ofFirstBroken_23 rfl ?_
      refine jj_icmp_ne (pc2 := 27) hC 29 dX1_ofFirstBroken_24 (by decide) rfl (fun h3 => ?_) (fun h3 => ?_)
      · have hV := hV.1 h3
        refine jj_iconst (pc2 := 30) hC 0 dX1_ofFirstBroken_29 (by decide) rfl ?_
        refine jj_istore_n (pc2 := 31) hC [(2, .int 0), (0, .ref (ad 10)), (1, .int a1)] dX1_ofFirstBroken_30 rfl (by decide) rfl rfl ?_
        refine jj_iconst (pc2 := 32) hC 0 dX1_ofFirstBroken_31 (by decide) rfl ?_
        refine jj_istore_n (pc2 := 33) hC [(3, .int 0), (2, .int 0), (0, .ref (ad 10)), (1, .int a1)] dX1_ofFirstBroken_32 rfl (by decide) rfl rfl ?_
        refine jj_iconst (pc2 := 34) hC 0 dX1_ofFirstBroken_33 (by decide) rfl ?_
        refine jj_istore (pc2 := 36) hC [(4, .int 0), (3, .int 0), (2, .int 0), (0, .ref (ad 10)), (1, .int a1)] dX1_ofFirstBroken_34 (by decide) rfl rfl ?_
        refine jj_iconst (pc2 := 37) hC 0 dX1_ofFirstBroken_36 (by decide) rfl ?_
        refine jj_istore (pc2 := 39) hC [(5, .int 0), (4, .int 0), (3, .int 0), (2, .int 0), (0, .ref (ad 10)), (1, .int a1)] dX1_ofFirstBroken_37 (by decide) rfl rfl ?_
        obtain ⟨n14, hV⟩ := hV
        refine jj_sub (lv2 := [(0, .ref (ad 10)), (1, .int a1), (2, .int 0), (3, .int 0), (4, .int 0), (5, .int 0)]) [4, 5, 3, 2, 1, 0] rfl (ac_X1_ofFirstBroken_39 hC a1 Post _ (fun y13 hV => ?_) n14 0 0 0 0 hV)
        refine jj_aload_n (pc2 := 87) hC dX1_ofFirstBroken_86 rfl 0 rfl rfl ?_
        refine cg_V_numbers (pc2 := 90) hC hi_X1_ofFirstBroken_X1 lk_X1_ofFirstBroken_5 dX1_ofFirstBroken_87 rfl ?_
        refine jj_iload_n (pc2 := 91) hC dX1_ofFirstBroken_90 rfl 1 rfl rfl ?_
        refine cl_V_numbers (pc2 := 92) hC hV.1 dX1_ofFirstBroken_91 rfl ?_
        have hV := hV.2
        exact jj_iret hC dX1_ofFirstBroken_92 ⟨hV, rfl⟩
      · have hV := hV.2 h3
        refine jj_iconst (pc2 := 28) hC (-1) dX1_ofFirstBroken_27 (by decide) rfl ?_
        exact jj_iret hC dX1_ofFirstBroken_28 ⟨hV, rfl⟩
abbrev rm_J7_fill_53178 : Room := { frames := 0, cells := 0, slots := 0, locals := 0 }
def vc_J7_fill_53178_5 (kk : Nat) (x1 : Int32) (x3 : Int32) (Post : cm_M → Prop) : Nat → Int32 → cm_M → Prop
  | 0, _, _ => False
  | f + 1, x2, g => ((x3 ≤ x2) → (Post g)) ∧ ((¬ x3 ≤ x2) → ((vp_in x2 6) ∧ (∀ g3 : cm_M, g3 = cm_a g kk x2 x1 → (vc_J7_fill_53178_5 kk x1 x3 Post f (x2 + 1) g3))))
def vc_J7_fill_53178 (kk : Nat) (a1 : Int32) (g0 : cm_M) (Post : cm_M → Prop) : Prop := ∀ y1 : Int32, y1 = Int32.ofNat 6 → (∃ n4 : Nat, vc_J7_fill_53178_5 kk a1 y1 Post n4 0 g0)
set_option maxHeartbeats 4000000 in
set_option maxRecDepth 100000 in
theorem ac_J7_fill_53178_members_5 {p : Program} {l : Launch} {e : Env} {s : State} {m : MethodId} {args : Array Value} {below : List Frame} {meth : Method} {c : Code} {D : va_G} {cs : Nat → ClassId} {Y X : va_W} {ad : Nat → Nat} {g0 : cm_M} (hC : JC p s m args meth c D vwCl (va_A (wc_d Y X cs ad g0) s.heap.size) 4 cJ7_fill_53178 none wsJ7_fill_53178 RJ7 (jt_tys cs)) (x1 : Int32) (x3 : Int32) (Post : cm_M → Prop) : ∀ (f : Nat) (x2 : Int32) (g : cm_M), vc_J7_fill_53178_5 42 x1 x3 Post f x2 g → JJ (wc_d Y X cs ad) p l e rm_J7_fill_53178 s m args below meth c D vwCl (va_A (wc_d Y X cs ad g0) s.heap.size) 4 0 0 (MQ below (jj_QV (wc_d Y X cs ad) D vwCl (jt_tys cs) g0 s.heap.size Post) args s 0 0 (va_A (wc_d Y X cs ad g0) s.heap.size)) 5 [(0, .ref (ad 41)), (1, .int x1), (2, .int x2), (3, .int x3)] [] g := by
  intro f
  induction f with
  | zero => intro x2 g hV; exact hV.elim
  | succ f ih =>
    intro x2 g hV
    rw [vc_J7_fill_53178_5] at hV
    refine jj_iload_n (pc2 := 6) hC dJ7_fill_53178_5 rfl 2 rfl rfl ?_
    refine jj_iload_n (pc2 := 7) hC dJ7_fill_53178_6 rfl 3 rfl rfl ?_
    refine jj_icmp_ge (pc2 := 10) hC 20 dJ7_fill_53178_7 (by decide) rfl (fun h2 => ?_) (fun h2 => ?_)
    · have hV := hV.1 h2
      exact jj_vret hC dJ7_fill_53178_20 hV
    · have hV := hV.2 h2
      refine jj_aload_n (pc2 := 11) hC dJ7_fill_53178_10 rfl 0 rfl rfl ?_
      refine jj_iload_n (pc2 := 12) hC dJ7_fill_53178_11 rfl 2 rfl rfl ?_
      refine jj_iload_n (pc2 := 13) hC dJ7_fill_53178_12 rfl 1 rfl rfl ?_
      refine ct_C_members (pc2 := 14) hC hV.1 dJ7_fill_53178_13 rfl (fun g3 eg3 => ?_)
      have hV := hV.2 g3 eg3
      refine jj_iinc (pc2 := 17) hC (x2 + 1) [(2, .int (x2 + 1)), (0, .ref (ad 41)), (1, .int x1), (3, .int x3)] dJ7_fill_53178_14 2 rfl rfl (by decide) rfl rfl ?_
      refine jj_goto hC 5 dJ7_fill_53178_17 (by decide) ?_
      exact jj_sub (lv2 := [(0, .ref (ad 41)), (1, .int x1), (2, .int (x2 + 1)), (3, .int x3)]) [1, 2, 0, 3] rfl (ih (x2 + 1) g3 hV)
set_option maxHeartbeats 4000000 in
set_option maxRecDepth 100000 in
theorem kc_J7_fill_53178_members (l : Launch) (D : va_G) (cs : Nat → ClassId) (Y X : va_W) (ad : Nat → Nat) (a1 : Int32) (g0 : cm_M) (Post : cm_M → Prop) (hV : vc_J7_fill_53178 42 a1 g0 Post) : JV (wc_d Y X cs ad) D vwCl (jt_tys cs) l yJ7_fill_53178 wsJ7_fill_53178 rm_J7_fill_53178 0 0 [.ref (ad 41), .int a1] g0 Post := by
  refine jj_metV (cc := cJ7_fill_53178) (nL := 4) (ret := none) (by decide) rfl (Nat.le_of_ble_eq_true rfl) [(0, .ref (ad 41)), (1, .int a1)] rfl ?_
  intro p e s m args below meth c hC hnm
  rw [vc_J7_fill_53178] at hV
  refine jj_iconst (pc2 := 1) hC 0 dJ7_fill_53178_0 (by decide) rfl ?_
  refine jj_istore_n (pc2 := 2) hC [(2, .int 0), (0, .ref (ad 41)), (1, .int a1)] dJ7_fill_53178_1 rfl (by decide) rfl rfl ?_
  refine jj_aload_n (pc2 := 3) hC dJ7_fill_53178_2 rfl 1 rfl rfl ?_
  refine jj_alen (pc2 := 4) (wd := wc_d Y X cs ad) (g := g0) hC (Y.length + 41) 0 (jx_at (V := wc_W cs ad g0) rfl) rfl dJ7_fill_53178_3 rfl ?_
  refine jj_topi (fun y1 ey1 => ?_)
  have hV := hV y1 ey1
  refine jj_istore_n (pc2 := 5) hC [(3, .int y1), (2, .int 0), (0, .ref (ad 41)), (1, .int a1)] dJ7_fill_53178_4 rfl (by decide) rfl rfl ?_
  obtain ⟨n4, hV⟩ := hV
  refine jj_sub (lv2 := [(0, .ref (ad 41)), (1, .int a1), (2, .int 0), (3, .int y1)]) [2, 3, 1, 0] rfl (ac_J7_fill_53178_members_5 hC a1 y1 Post n4 0 g0 hV)
set_option maxHeartbeats 4000000 in
set_option maxRecDepth 100000 in
theorem ac_J7_fill_53178_loads_5 {p : Program} {l : Launch} {e : Env} {s : State} {m : MethodId} {args : Array Value} {below : List Frame} {meth : Method} {c : Code} {D : va_G} {cs : Nat → ClassId} {Y X : va_W} {ad : Nat → Nat} {g0 : cm_M} (hC : JC p s m args meth c D vwCl (va_A (wc_d Y X cs ad g0) s.heap.size) 4 cJ7_fill_53178 none wsJ7_fill_53178 RJ7 (jt_tys cs)) (x1 : Int32) (x3 : Int32) (Post : cm_M → Prop) : ∀ (f : Nat) (x2 : Int32) (g : cm_M), vc_J7_fill_53178_5 43 x1 x3 Post f x2 g → JJ (wc_d Y X cs ad) p l e rm_J7_fill_53178 s m args below meth c D vwCl (va_A (wc_d Y X cs ad g0) s.heap.size) 4 0 0 (MQ below (jj_QV (wc_d Y X cs ad) D vwCl (jt_tys cs) g0 s.heap.size Post) args s 0 0 (va_A (wc_d Y X cs ad g0) s.heap.size)) 5 [(0, .ref (ad 42)), (1, .int x1), (2, .int x2), (3, .int x3)] [] g := by
  intro f
  induction f with
  | zero => intro x2 g hV; exact hV.elim
  | succ f ih =>
    intro x2 g hV
    rw [vc_J7_fill_53178_5] at hV
    refine jj_iload_n (pc2 := 6) hC dJ7_fill_53178_5 rfl 2 rfl rfl ?_
    refine jj_iload_n (pc2 := 7) hC dJ7_fill_53178_6 rfl 3 rfl rfl ?_
    refine jj_icmp_ge (pc2 := 10) hC 20 dJ7_fill_53178_7 (by decide) rfl (fun h2 => ?_) (fun h2 => ?_)
    · have hV := hV.1 h2
      exact jj_vret hC dJ7_fill_53178_20 hV
    · have hV := hV.2 h2
      refine jj_aload_n (pc2 := 11) hC dJ7_fill_53178_10 rfl 0 rfl rfl ?_
      refine jj_iload_n (pc2 := 12) hC dJ7_fill_53178_11 rfl 2 rfl rfl ?_
      refine jj_iload_n (pc2 := 13) hC dJ7_fill_53178_12 rfl 1 rfl rfl ?_
      refine ct_C_loads (pc2 := 14) hC hV.1 dJ7_fill_53178_13 rfl (fun g3 eg3 => ?_)
      have hV := hV.2 g3 eg3
      refine jj_iinc (pc2 := 17) hC (x2 + 1) [(2, .int (x2 + 1)), (0, .ref (ad 42)), (1, .int x1), (3, .int x3)] dJ7_fill_53178_14 2 rfl rfl (by decide) rfl rfl ?_
      refine jj_goto hC 5 dJ7_fill_53178_17 (by decide) ?_
      exact jj_sub (lv2 := [(0, .ref (ad 42)), (1, .int x1), (2, .int (x2 + 1)), (3, .int x3)]) [1, 2, 0, 3] rfl (ih (x2 + 1) g3 hV)
set_option maxHeartbeats 4000000 in
set_option maxRecDepth 100000 in
theorem kc_J7_fill_53178_loads (l : Launch) (D : va_G) (cs : Nat → ClassId) (Y X : va_W) (ad : Nat → Nat) (a1 : Int32) (g0 : cm_M) (Post : cm_M → Prop) (hV : vc_J7_fill_53178 43 a1 g0 Post) : JV (wc_d Y X cs ad) D vwCl (jt_tys cs) l yJ7_fill_53178 wsJ7_fill_53178 rm_J7_fill_53178 0 0 [.ref (ad 42), .int a1] g0 Post := by
  refine jj_metV (cc := cJ7_fill_53178) (nL := 4) (ret := none) (by decide) rfl (Nat.le_of_ble_eq_true rfl) [(0, .ref (ad 42)), (1, .int a1)] rfl ?_
  intro p e s m args below meth c hC hnm
  rw [vc_J7_fill_53178] at hV
  refine jj_iconst (pc2 := 1) hC 0 dJ7_fill_53178_0 (by decide) rfl ?_
  refine jj_istore_n (pc2 := 2) hC [(2, .int 0), (0, .ref (ad 42)), (1, .int a1)] dJ7_fill_53178_1 rfl (by decide) rfl rfl ?_
  refine jj_aload_n (pc2 := 3) hC dJ7_fill_53178_2 rfl 1 rfl rfl ?_
  refine jj_alen (pc2 := 4) (wd := wc_d Y X cs ad) (g := g0) hC (Y.length + 42) 0 (jx_at (V := wc_W cs ad g0) rfl) rfl dJ7_fill_53178_3 rfl ?_
  refine jj_topi (fun y1 ey1 => ?_)
  have hV := hV y1 ey1
  refine jj_istore_n (pc2 := 5) hC [(3, .int y1), (2, .int 0), (0, .ref (ad 42)), (1, .int a1)] dJ7_fill_53178_4 rfl (by decide) rfl rfl ?_
  obtain ⟨n4, hV⟩ := hV
  refine jj_sub (lv2 := [(0, .ref (ad 42)), (1, .int a1), (2, .int 0), (3, .int y1)]) [2, 3, 1, 0] rfl (ac_J7_fill_53178_loads_5 hC a1 y1 Post n4 0 g0 hV)
set_option maxHeartbeats 4000000 in
set_option maxRecDepth 100000 in
theorem ac_J7_fill_53178_calls_5 {p : Program} {l : Launch} {e : Env} {s : State} {m : MethodId} {args : Array Value} {below : List Frame} {meth : Method} {c : Code} {D : va_G} {cs : Nat → ClassId} {Y X : va_W} {ad : Nat → Nat} {g0 : cm_M} (hC : JC p s m args meth c D vwCl (va_A (wc_d Y X cs ad g0) s.heap.size) 4 cJ7_fill_53178 none wsJ7_fill_53178 RJ7 (jt_tys cs)) (x1 : Int32) (x3 : Int32) (Post : cm_M → Prop) : ∀ (f : Nat) (x2 : Int32) (g : cm_M), vc_J7_fill_53178_5 54 x1 x3 Post f x2 g → JJ (wc_d Y X cs ad) p l e rm_J7_fill_53178 s m args below meth c D vwCl (va_A (wc_d Y X cs ad g0) s.heap.size) 4 0 0 (MQ below (jj_QV (wc_d Y X cs ad) D vwCl (jt_tys cs) g0 s.heap.size Post) args s 0 0 (va_A (wc_d Y X cs ad g0) s.heap.size)) 5 [(0, .ref (ad 49)), (1, .int x1), (2, .int x2), (3, .int x3)] [] g := by
  intro f
  induction f with
  | zero => intro x2 g hV; exact hV.elim
  | succ f ih =>
    intro x2 g hV
    rw [vc_J7_fill_53178_5] at hV
    refine jj_iload_n (pc2 := 6) hC dJ7_fill_53178_5 rfl 2 rfl rfl ?_
    refine jj_iload_n (pc2 := 7) hC dJ7_fill_53178_6 rfl 3 rfl rfl ?_
    refine jj_icmp_ge (pc2 := 10) hC 20 dJ7_fill_53178_7 (by decide) rfl (fun h2 => ?_) (fun h2 => ?_)
    · have hV := hV.1 h2
      exact jj_vret hC dJ7_fill_53178_20 hV
    · have hV := hV.2 h2
      refine jj_aload_n (pc2 := 11) hC dJ7_fill_53178_10 rfl 0 rfl rfl ?_
      refine jj_iload_n (pc2 := 12) hC dJ7_fill_53178_11 rfl 2 rfl rfl ?_
      refine jj_iload_n (pc2 := 13) hC dJ7_fill_53178_12 rfl 1 rfl rfl ?_
      refine ct_G_calls (pc2 := 14) hC hV.1 dJ7_fill_53178_13 rfl (fun g3 eg3 => ?_)
      have hV := hV.2 g3 eg3
      refine jj_iinc (pc2 := 17) hC (x2 + 1) [(2, .int (x2 + 1)), (0, .ref (ad 49)), (1, .int x1), (3, .int x3)] dJ7_fill_53178_14 2 rfl rfl (by decide) rfl rfl ?_
      refine jj_goto hC 5 dJ7_fill_53178_17 (by decide) ?_
      exact jj_sub (lv2 := [(0, .ref (ad 49)), (1, .int x1), (2, .int (x2 + 1)), (3, .int x3)]) [1, 2, 0, 3] rfl (ih (x2 + 1) g3 hV)
set_option maxHeartbeats 4000000 in
set_option maxRecDepth 100000 in
theorem kc_J7_fill_53178_calls (l : Launch) (D : va_G) (cs : Nat → ClassId) (Y X : va_W) (ad : Nat → Nat) (a1 : Int32) (g0 : cm_M) (Post : cm_M → Prop) (hV : vc_J7_fill_53178 54 a1 g0 Post) : JV (wc_d Y X cs ad) D vwCl (jt_tys cs) l yJ7_fill_53178 wsJ7_fill_53178 rm_J7_fill_53178 0 0 [.ref (ad 49), .int a1] g0 Post := by
  refine jj_metV (cc := cJ7_fill_53178) (nL := 4) (ret := none) (by decide) rfl (Nat.le_of_ble_eq_true rfl) [(0, .ref (ad 49)), (1, .int a1)] rfl ?_
  intro p e s m args below meth c hC hnm
  rw [vc_J7_fill_53178] at hV
  refine jj_iconst (pc2 := 1) hC 0 dJ7_fill_53178_0 (by decide) rfl ?_
  refine jj_istore_n (pc2 := 2) hC [(2, .int 0), (0, .ref (ad 49)), (1, .int a1)] dJ7_fill_53178_1 rfl (by decide) rfl rfl ?_
  refine jj_aload_n (pc2 := 3) hC dJ7_fill_53178_2 rfl 1 rfl rfl ?_
  refine jj_alen (pc2 := 4) (wd := wc_d Y X cs ad) (g := g0) hC (Y.length + 49) 0 (jx_at (V := wc_W cs ad g0) rfl) rfl dJ7_fill_53178_3 rfl ?_
  refine jj_topi (fun y1 ey1 => ?_)
  have hV := hV y1 ey1
  refine jj_istore_n (pc2 := 5) hC [(3, .int y1), (2, .int 0), (0, .ref (ad 49)), (1, .int a1)] dJ7_fill_53178_4 rfl (by decide) rfl rfl ?_
  obtain ⟨n4, hV⟩ := hV
  refine jj_sub (lv2 := [(0, .ref (ad 49)), (1, .int a1), (2, .int 0), (3, .int y1)]) [2, 3, 1, 0] rfl (ac_J7_fill_53178_calls_5 hC a1 y1 Post n4 0 g0 hV)
theorem hi_X2_readTold_X2 : ∀ w ∈ u_ws RX2 TX2 14, w ∈ wsX2_readTold := fun _ h => List.mem_cons_of_mem _ (List.mem_append_left _ (List.mem_append_right _ h))
theorem lk_X2_readTold_4 : Cond.fieldLink RX2 27 "PartedHouse$Cutter" "apartAhead" "[I" ∈ wsX2_readTold := List.mem_of_getElem? (i := 4) rfl
theorem lk_X2_readTold_3 : Cond.fieldLink RX2 24 "PartedHouse$Cutter" "togetherAhead" "[I" ∈ wsX2_readTold := List.mem_of_getElem? (i := 3) rfl
theorem hi_X2_readTold_X9 : ∀ w ∈ u_ws RX9 TX9 11, w ∈ wsX2_readTold := fun _ h => List.mem_cons_of_mem _ (List.mem_append_right _ h)
theorem lk_X2_readTold_2 : Cond.fieldLink RX2 78 "PartedHouse$Text" "modules" "I" ∈ wsX2_readTold := List.mem_of_getElem? (i := 2) rfl
theorem lk_X2_readTold_1 : Cond.fieldLink RX2 33 "PartedHouse$Cutter" "text" "LPartedHouse$Text;" ∈ wsX2_readTold := List.mem_of_getElem? (i := 1) rfl
abbrev rm_X2_readTold : Room := { frames := 0, cells := 0, slots := 0, locals := 0 }
def vc_X2_readTold_35 (x2 : Int32) (K100 : cm_M → Prop) (Post : cm_M → Prop) : Nat → Int32 → cm_M → Prop
  | 0, _, _ => False
  | f + 1, x3, g => ((x2 ≤ x3) → (K100 g)) ∧ ((¬ x2 ≤ x3) → ((vp_in ((x2 * 10) + x3) 100) ∧ (∀ y6 : Int32, y6 = g.2.2 3 ((x2 * 10) + x3).toNatClampNeg → ((vp_in x2 9) ∧ (((¬ y6 = 1) → ((vp_in x2 9) ∧ (∀ g8 : cm_M, g8 = cm_a g 46 x2 ((g.2.2 46 x2.toNatClampNeg) ||| 0) → ((vp_in x2 9) ∧ (((¬ y6 = 2) → ((vp_in x2 9) ∧ (∀ g10 : cm_M, g10 = cm_a g8 47 x2 ((g8.2.2 47 x2.toNatClampNeg) ||| 0) → (vc_X2_readTold_35 x2 K100 Post f (x3 + 1) g10)))) ∧ ((y6 = 2) → ((vp_in x2 9) ∧ (∀ g11 : cm_M, g11 = cm_a g8 47 x2 ((g8.2.2 47 x2.toNatClampNeg) ||| ((1 : Int32) <<< (x3 &&& 31))) → (vc_X2_readTold_35 x2 K100 Post f (x3 + 1) g11))))))))) ∧ ((y6 = 1) → ((vp_in x2 9) ∧ (∀ g12 : cm_M, g12 = cm_a g 46 x2 ((g.2.2 46 x2.toNatClampNeg) ||| ((1 : Int32) <<< (x3 &&& 31))) → ((vp_in x2 9) ∧ (((¬ y6 = 2) → ((vp_in x2 9) ∧ (∀ g14 : cm_M, g14 = cm_a g12 47 x2 ((g12.2.2 47 x2.toNatClampNeg) ||| 0) → (vc_X2_readTold_35 x2 K100 Post f (x3 + 1) g14)))) ∧ ((y6 = 2) → ((vp_in x2 9) ∧ (∀ g15 : cm_M, g15 = cm_a g12 47 x2 ((g12.2.2 47 x2.toNatClampNeg) ||| ((1 : Int32) <<< (x3 &&& 31))) → (vc_X2_readTold_35 x2 K100 Post f (x3 + 1) g15))))))))))))))
def vc_X2_readTold_2 (Post : cm_M → Prop) : Nat → Int32 → cm_M → Prop
  | 0, _, _ => False
  | f + 1, x2, g => (((g.2.2 12 0) ≤ x2) → (Post g)) ∧ ((¬ (g.2.2 12 0) ≤ x2) → (((9 ≤ x2) → (Post g)) ∧ ((¬ 9 ≤ x2) → ((vp_in x2 9) ∧ (∀ g3 : cm_M, g3 = cm_a g 46 x2 0 → ((vp_in x2 9) ∧ (∀ g4 : cm_M, g4 = cm_a g3 47 x2 0 → (∃ n17 : Nat, vc_X2_readTold_35 x2 (fun (g16 : cm_M) => vc_X2_readTold_2 Post f (x2 + 1) g16) Post n17 0 g4))))))))
def vc_X2_readTold (g0 : cm_M) (Post : cm_M → Prop) : Prop := ∃ n18 : Nat, vc_X2_readTold_2 Post n18 0 g0
set_option maxHeartbeats 4000000 in
set_option maxRecDepth 100000 in
theorem ac_X2_readTold_35 {p : Program} {l : Launch} {e : Env} {s : State} {m : MethodId} {args : Array Value} {below : List Frame} {meth : Method} {c : Code} {D : va_G} {cs : Nat → ClassId} {Y X : va_W} {ad : Nat → Nat} {g0 : cm_M} (hC : JC p s m args meth c D vwCl (va_A (wc_d Y X cs ad g0) s.heap.size) 5 cX2_readTold none wsX2_readTold RX2 (jt_tys cs)) (x2 : Int32) (Post : cm_M → Prop) (K100 : cm_M → Prop) (hK100 : ∀ (g : cm_M) , K100 g → JJ (wc_d Y X cs ad) p l e rm_X2_readTold s m args below meth c D vwCl (va_A (wc_d Y X cs ad g0) s.heap.size) 5 0 0 (MQ below (jj_QV (wc_d Y X cs ad) D vwCl (jt_tys cs) g0 s.heap.size Post) args s 0 0 (va_A (wc_d Y X cs ad g0) s.heap.size)) 100 [(0, .ref (ad 7)), (1, .ref (ad 15)), (2, .int x2)] [] g) : ∀ (f : Nat) (x3 : Int32) (g : cm_M), vc_X2_readTold_35 x2 K100 Post f x3 g → JJ (wc_d Y X cs ad) p l e rm_X2_readTold s m args below meth c D vwCl (va_A (wc_d Y X cs ad g0) s.heap.size) 5 0 0 (MQ below (jj_QV (wc_d Y X cs ad) D vwCl (jt_tys cs) g0 s.heap.size Post) args s 0 0 (va_A (wc_d Y X cs ad g0) s.heap.size)) 35 [(0, .ref (ad 7)), (1, .ref (ad 15)), (2, .int x2), (3, .int x3)] [] g := by
  intro f
  induction f with
  | zero => intro x3 g hV; exact hV.elim
  | succ f ih =>
    intro x3 g hV
    rw [vc_X2_readTold_35] at hV
    refine jj_iload_n (pc2 := 36) hC dX2_readTold_35 rfl 3 rfl rfl ?_
    refine jj_iload_n (pc2 := 37) hC dX2_readTold_36 rfl 2 rfl rfl ?_
    refine jj_icmp_ge (pc2 := 40) hC 100 dX2_readTold_37 (by decide) rfl (fun h5 => ?_) (fun h5 => ?_)
    · have hV := hV.1 h5
      exact jj_sub (lv2 := [(0, .ref (ad 7)), (1, .ref (ad 15)), (2, .int x2)]) [0, 1, 2] rfl (hK100 g hV)
    · have hV := hV.2 h5
      refine jj_aload_n (pc2 := 41) hC dX2_readTold_40 rfl 1 rfl rfl ?_
      refine jj_iload_n (pc2 := 42) hC dX2_readTold_41 rfl 2 rfl rfl ?_
      refine jj_bipush (pc2 := 44) hC 10 dX2_readTold_42 (by decide) rfl ?_
      refine jj_imul (pc2 := 45) hC dX2_readTold_44 rfl ?_
      refine jj_iload_n (pc2 := 46) hC dX2_readTold_45 rfl 3 rfl rfl ?_
      refine jj_iadd (pc2 := 47) hC dX2_readTold_46 rfl ?_
      refine cl_M_told (pc2 := 48) hC hV.1 dX2_readTold_47 rfl ?_
      have hV := hV.2
      refine jj_topi (fun y6 ey6 => ?_)
      have hV := hV y6 ey6
      refine jj_istore (pc2 := 50) hC [(4, .int y6), (0, .ref (ad 7)), (1, .ref (ad 15)), (2, .int x2), (3, .int x3)] dX2_readTold_48 (by decide) rfl rfl ?_
      refine jj_aload_n (pc2 := 51) hC dX2_readTold_50 rfl 1 rfl rfl ?_
      refine cg_C_togetherAhead (pc2 := 54) hC hi_X2_readTold_X2 lk_X2_readTold_3 dX2_readTold_51 rfl ?_
      refine jj_iload_n (pc2 := 55) hC dX2_readTold_54 rfl 3 rfl rfl ?_
      refine jj_dup2 (pc2 := 56) hC dX2_readTold_55 rfl rfl rfl ?_
      refine cl_C_togetherAhead (pc2 := 57) hC hV.1 dX2_readTold_56 rfl ?_
      have hV := hV.2
      refine jj_iload (pc2 := 59) hC dX2_readTold_57 0 rfl rfl ?_
      refine jj_iconst (pc2 := 60) hC 1 dX2_readTold_59 (by decide) rfl ?_
      refine jj_icmp_ne (pc2 := 63) hC 69 dX2_readTold_60 (by decide) rfl (fun h7 => ?_) (fun h7 => ?_)
      · have hV := hV.1 h7
        refine jj_iconst (pc2 := 70) hC 0 dX2_readTold_69 (by decide) rfl ?_
        refine jj_ior (pc2 := 71) hC dX2_readTold_70 rfl ?_
        refine ct_C_togetherAhead (pc2 := 72) hC hV.1 dX2_readTold_71 rfl (fun g8 eg8 => ?_)
        have hV := hV.2 g8 eg8
        refine jj_aload_n (pc2 := 73) hC dX2_readTold_72 rfl 1 rfl rfl ?_
        refine cg_C_apartAhead (pc2 := 76) hC hi_X2_readTold_X2 lk_X2_readTold_4 dX2_readTold_73 rfl ?_
        refine jj_iload_n (pc2 := 77) hC dX2_readTold_76 rfl 3 rfl rfl ?_
        refine jj_dup2 (pc2 := 78) hC dX2_readTold_77 rfl rfl rfl ?_
        refine cl_C_apartAhead (pc2 := 79) hC hV.1 dX2_readTold_78 rfl ?_
        have hV := hV.2
        refine jj_iload (pc2 := 81) hC dX2_readTold_79 0 rfl rfl ?_
        refine jj_iconst (pc2 := 82) hC 2 dX2_readTold_81 (by decide) rfl ?_
        refine jj_icmp_ne (pc2 := 85) hC 91 dX2_readTold_82 (by decide) rfl (fun h9 => ?_) (fun h9 => ?_)
        · have hV := hV.1 h9
          refine jj_iconst (pc2 := 92) hC 0 dX2_readTold_91 (by decide) rfl ?_
          refine jj_ior (pc2 := 93) hC dX2_readTold_92 rfl ?_
          refine ct_C_apartAhead (pc2 := 94) hC hV.1 dX2_readTold_93 rfl (fun g10 eg10 => ?_)
          have hV := hV.2 g10 eg10
          refine jj_iinc (pc2 := 97) hC (x3 + 1) [(3, .int (x3 + 1)), (4, .int y6), (0, .ref (ad 7)), (1, .ref (ad 15)), (2, .int x2)] dX2_readTold_94 4 rfl rfl (by decide) rfl rfl ?_
          refine jj_goto hC 35 dX2_readTold_97 (by decide) ?_
          exact jj_sub (lv2 := [(0, .ref (ad 7)), (1, .ref (ad 15)), (2, .int x2), (3, .int (x3 + 1))]) [2, 3, 4, 0] rfl (ih (x3 + 1) g10 hV)
        · have hV := hV.2 h9
          refine jj_iconst (pc2 := 86) hC 1 dX2_readTold_85 (by decide) rfl ?_
          refine jj_iload_n (pc2 := 87) hC dX2_readTold_86 rfl 4 rfl rfl ?_
          refine jj_ishl (pc2 := 88) hC dX2_readTold_87 rfl ?_
          refine jj_goto hC 92 dX2_readTold_88 (by decide) ?_
          refine jj_ior (pc2 := 93) hC dX2_readTold_92 rfl ?_
          refine ct_C_apartAhead (pc2 := 94) hC hV.1 dX2_readTold_93 rfl (fun g11 eg11 => ?_)
          have hV := hV.2 g11 eg11
          refine jj_iinc (pc2 := 97) hC (x3 + 1) [(3, .int (x3 + 1)), (4, .int y6), (0, .ref (ad 7)), (1, .ref (ad 15)), (2, .int x2)] dX2_readTold_94 4 rfl rfl (by decide) rfl rfl ?_
          refine jj_goto hC 35 dX2_readTold_97 (by decide) ?_
          exact jj_sub (lv2 := [(0, .ref (ad 7)), (1, .ref (ad 15)), (2, .int x2), (3, .int (x3 + 1))]) [2, 3, 4, 0] rfl (ih (x3 + 1) g11 hV)
      · have hV := hV.2 h7
        refine jj_iconst (pc2 := 64) hC 1 dX2_readTold_63 (by decide) rfl ?_
        refine jj_iload_n (pc2 := 65) hC dX2_readTold_64 rfl 4 rfl rfl ?_
        refine jj_ishl (pc2 := 66) hC dX2_readTold_65 rfl ?_
        refine jj_goto hC 70 dX2_readTold_66 (by decide) ?_
        refine jj_ior (pc2 := 71) hC dX2_readTold_70 rfl ?_
        refine ct_C_togetherAhead (pc2 := 72) hC hV.1 dX2_readTold_71 rfl (fun g12 eg12 => ?_)
        have hV := hV.2 g12 eg12
        refine jj_aload_n (pc2 := 73) hC dX2_readTold_72 rfl 1 rfl rfl ?_
        refine cg_C_apartAhead (pc2 := 76) hC hi_X2_readTold_X2 lk_X2_readTold_4 dX2_readTold_73 rfl ?_
        refine jj_iload_n (pc2 := 77) hC dX2_readTold_76 rfl 3 rfl rfl ?_
        refine jj_dup2 (pc2 := 78) hC dX2_readTold_77 rfl rfl rfl ?_
        refine cl_C_apartAhead (pc2 := 79) hC hV.1 dX2_readTold_78 rfl ?_
        have hV := hV.2
        refine jj_iload (pc2 := 81) hC dX2_readTold_79 0 rfl rfl ?_
        refine jj_iconst (pc2 := 82) hC 2 dX2_readTold_81 (by decide) rfl ?_
        refine jj_icmp_ne (pc2 := 85) hC 91 dX2_readTold_82 (by decide) rfl (fun h13 => ?_) (fun h13 => ?_)
        · have hV := hV.1 h13
          refine jj_iconst (pc2 := 92) hC 0 dX2_readTold_91 (by decide) rfl ?_
          refine jj_ior (pc2 := 93) hC dX2_readTold_92 rfl ?_
          refine ct_C_apartAhead (pc2 := 94) hC hV.1 dX2_readTold_93 rfl (fun g14 eg14 => ?_)
          have hV := hV.2 g14 eg14
          refine jj_iinc (pc2 := 97) hC (x3 + 1) [(3, .int (x3 + 1)), (4, .int y6), (0, .ref (ad 7)), (1, .ref (ad 15)), (2, .int x2)] dX2_readTold_94 4 rfl rfl (by decide) rfl rfl ?_
          refine jj_goto hC 35 dX2_readTold_97 (by decide) ?_
          exact jj_sub (lv2 := [(0, .ref (ad 7)), (1, .ref (ad 15)), (2, .int x2), (3, .int (x3 + 1))]) [2, 3, 4, 0] rfl (ih (x3 + 1) g14 hV)
        · have hV := hV.2 h13
          refine jj_iconst (pc2 := 86) hC 1 dX2_readTold_85 (by decide) rfl ?_
          refine jj_iload_n (pc2 := 87) hC dX2_readTold_86 rfl 4 rfl rfl ?_
          refine jj_ishl (pc2 := 88) hC dX2_readTold_87 rfl ?_
          refine jj_goto hC 92 dX2_readTold_88 (by decide) ?_
          refine jj_ior (pc2 := 93) hC dX2_readTold_92 rfl ?_
          refine ct_C_apartAhead (pc2 := 94) hC hV.1 dX2_readTold_93 rfl (fun g15 eg15 => ?_)
          have hV := hV.2 g15 eg15
          refine jj_iinc (pc2 := 97) hC (x3 + 1) [(3, .int (x3 + 1)), (4, .int y6), (0, .ref (ad 7)), (1, .ref (ad 15)), (2, .int x2)] dX2_readTold_94 4 rfl rfl (by decide) rfl rfl ?_
          refine jj_goto hC 35 dX2_readTold_97 (by decide) ?_
          exact jj_sub (lv2 := [(0, .ref (ad 7)), (1, .ref (ad 15)), (2, .int x2), (3, .int (x3 + 1))]) [2, 3, 4, 0] rfl (ih (x3 + 1) g15 hV)
set_option maxHeartbeats 4000000 in
set_option maxRecDepth 100000 in
theorem ac_X2_readTold_2 {p : Program} {l : Launch} {e : Env} {s : State} {m : MethodId} {args : Array Value} {below : List Frame} {meth : Method} {c : Code} {D : va_G} {cs : Nat → ClassId} {Y X : va_W} {ad : Nat → Nat} {g0 : cm_M} (hC : JC p s m args meth c D vwCl (va_A (wc_d Y X cs ad g0) s.heap.size) 5 cX2_readTold none wsX2_readTold RX2 (jt_tys cs)) (Post : cm_M → Prop) : ∀ (f : Nat) (x2 : Int32) (g : cm_M), vc_X2_readTold_2 Post f x2 g → JJ (wc_d Y X cs ad) p l e rm_X2_readTold s m args below meth c D vwCl (va_A (wc_d Y X cs ad g0) s.heap.size) 5 0 0 (MQ below (jj_QV (wc_d Y X cs ad) D vwCl (jt_tys cs) g0 s.heap.size Post) args s 0 0 (va_A (wc_d Y X cs ad g0) s.heap.size)) 2 [(0, .ref (ad 7)), (1, .ref (ad 15)), (2, .int x2)] [] g := by
  intro f
  induction f with
  | zero => intro x2 g hV; exact hV.elim
  | succ f ih =>
    intro x2 g hV
    rw [vc_X2_readTold_2] at hV
    refine jj_iload_n (pc2 := 3) hC dX2_readTold_2 rfl 2 rfl rfl ?_
    refine jj_aload_n (pc2 := 4) hC dX2_readTold_3 rfl 0 rfl rfl ?_
    refine cg_C_text (pc2 := 7) hC hi_X2_readTold_X2 lk_X2_readTold_1 dX2_readTold_4 rfl ?_
    refine cg_T_modules (pc2 := 10) hC hi_X2_readTold_X9 lk_X2_readTold_2 dX2_readTold_7 rfl ?_
    refine jj_icmp_ge (pc2 := 13) hC 106 dX2_readTold_10 (by decide) rfl (fun h1 => ?_) (fun h1 => ?_)
    · have hV := hV.1 h1
      exact jj_vret hC dX2_readTold_106 hV
    · have hV := hV.2 h1
      refine jj_iload_n (pc2 := 14) hC dX2_readTold_13 rfl 2 rfl rfl ?_
      refine jj_bipush (pc2 := 16) hC 9 dX2_readTold_14 (by decide) rfl ?_
      refine jj_icmp_ge (pc2 := 19) hC 106 dX2_readTold_16 (by decide) rfl (fun h2 => ?_) (fun h2 => ?_)
      · have hV := hV.1 h2
        exact jj_vret hC dX2_readTold_106 hV
      · have hV := hV.2 h2
        refine jj_aload_n (pc2 := 20) hC dX2_readTold_19 rfl 0 rfl rfl ?_
        refine cg_C_togetherAhead (pc2 := 23) hC hi_X2_readTold_X2 lk_X2_readTold_3 dX2_readTold_20 rfl ?_
        refine jj_iload_n (pc2 := 24) hC dX2_readTold_23 rfl 2 rfl rfl ?_
        refine jj_iconst (pc2 := 25) hC 0 dX2_readTold_24 (by decide) rfl ?_
        refine ct_C_togetherAhead (pc2 := 26) hC hV.1 dX2_readTold_25 rfl (fun g3 eg3 => ?_)
        have hV := hV.2 g3 eg3
        refine jj_aload_n (pc2 := 27) hC dX2_readTold_26 rfl 0 rfl rfl ?_
        refine cg_C_apartAhead (pc2 := 30) hC hi_X2_readTold_X2 lk_X2_readTold_4 dX2_readTold_27 rfl ?_
        refine jj_iload_n (pc2 := 31) hC dX2_readTold_30 rfl 2 rfl rfl ?_
        refine jj_iconst (pc2 := 32) hC 0 dX2_readTold_31 (by decide) rfl ?_
        refine ct_C_apartAhead (pc2 := 33) hC hV.1 dX2_readTold_32 rfl (fun g4 eg4 => ?_)
        have hV := hV.2 g4 eg4
        refine jj_iconst (pc2 := 34) hC 0 dX2_readTold_33 (by decide) rfl ?_
        refine jj_istore_n (pc2 := 35) hC [(3, .int 0), (0, .ref (ad 7)), (1, .ref (ad 15)), (2, .int x2)] dX2_readTold_34 rfl (by decide) rfl rfl ?_
        obtain ⟨n17, hV⟩ := hV
        refine jj_sub (lv2 := [(0, .ref (ad 7)), (1, .ref (ad 15)), (2, .int x2), (3, .int 0)]) [1, 2, 3, 0] rfl (ac_X2_readTold_35 hC x2 Post _ (fun g16 hV => ?_) n17 0 g4 hV)
        refine jj_iinc (pc2 := 103) hC (x2 + 1) [(2, .int (x2 + 1)), (0, .ref (ad 7)), (1, .ref (ad 15))] dX2_readTold_100 2 rfl rfl (by decide) rfl rfl ?_
        refine jj_goto hC 2 dX2_readTold_103 (by decide) ?_
        exact jj_sub (lv2 := [(0, .ref (ad 7)), (1, .ref (ad 15)), (2, .int (x2 + 1))]) [1, 2, 0] rfl (ih (x2 + 1) g16 hV)
set_option maxHeartbeats 4000000 in
set_option maxRecDepth 100000 in
theorem kc_X2_readTold (l : Launch) (D : va_G) (cs : Nat → ClassId) (Y X : va_W) (ad : Nat → Nat) (g0 : cm_M) (Post : cm_M → Prop) (hV : vc_X2_readTold g0 Post) : JV (wc_d Y X cs ad) D vwCl (jt_tys cs) l yX2_readTold wsX2_readTold rm_X2_readTold 0 0 [.ref (ad 7), .ref (ad 15)] g0 Post := by
  refine jj_metV (cc := cX2_readTold) (nL := 5) (ret := none) (by decide) rfl (Nat.le_of_ble_eq_true rfl) [(0, .ref (ad 7)), (1, .ref (ad 15))] rfl ?_
  intro p e s m args below meth c hC hnm
  rw [vc_X2_readTold] at hV
  refine jj_iconst (pc2 := 1) hC 0 dX2_readTold_0 (by decide) rfl ?_
  refine jj_istore_n (pc2 := 2) hC [(2, .int 0), (0, .ref (ad 7)), (1, .ref (ad 15))] dX2_readTold_1 rfl (by decide) rfl rfl ?_
  obtain ⟨n18, hV⟩ := hV
  refine jj_sub (lv2 := [(0, .ref (ad 7)), (1, .ref (ad 15)), (2, .int 0)]) [1, 2, 0] rfl (ac_X2_readTold_2 hC Post n18 0 g0 hV)
theorem hi_X2_isAllowed_X2 : ∀ w ∈ u_ws RX2 TX2 14, w ∈ wsX2_isAllowed := fun _ h => List.mem_cons_of_mem _ (List.mem_append_right _ h)
theorem lk_X2_isAllowed_2 : Cond.fieldLink RX2 24 "PartedHouse$Cutter" "togetherAhead" "[I" ∈ wsX2_isAllowed := List.mem_of_getElem? (i := 2) rfl
theorem lk_X2_isAllowed_1 : Cond.fieldLink RX2 27 "PartedHouse$Cutter" "apartAhead" "[I" ∈ wsX2_isAllowed := List.mem_of_getElem? (i := 1) rfl
abbrev rm_X2_isAllowed : Room := { frames := 0, cells := 0, slots := 0, locals := 0 }
def vc_X2_isAllowed (a1 : Int32) (a2 : Int32) (g0 : cm_M) (Post : Int32 → Prop) : Prop := (vp_in a1 9) ∧ (((¬ ((g0.2.2 47 a1.toNatClampNeg) &&& a2) = 0) → (Post 0)) ∧ ((((g0.2.2 47 a1.toNatClampNeg) &&& a2) = 0) → ((vp_in a1 9) ∧ (((¬ ((g0.2.2 46 a1.toNatClampNeg) &&& (a2 ^^^ (-1))) = 0) → (Post 0)) ∧ ((((g0.2.2 46 a1.toNatClampNeg) &&& (a2 ^^^ (-1))) = 0) → (Post 1))))))
set_option maxHeartbeats 4000000 in
set_option maxRecDepth 100000 in
theorem kc_X2_isAllowed (l : Launch) (D : va_G) (cs : Nat → ClassId) (Y X : va_W) (ad : Nat → Nat) (a1 : Int32) (a2 : Int32) (g0 : cm_M) (Post : Int32 → Prop) (hV : vc_X2_isAllowed a1 a2 g0 Post) : JI (wc_d Y X cs ad) D vwCl (jt_tys cs) l yX2_isAllowed wsX2_isAllowed rm_X2_isAllowed 0 0 [.ref (ad 7), .int a1, .int a2] g0 (fun r g2 => Post r ∧ g2 = g0) := by
  refine jj_metI (cc := cX2_isAllowed) (nL := 3) (ret := (some .boolean)) (by decide) rfl (Nat.le_of_ble_eq_true rfl) [(0, .ref (ad 7)), (1, .int a1), (2, .int a2)] rfl ?_
  intro p e s m args below meth c hC hnm
  rw [vc_X2_isAllowed] at hV
  refine jj_aload_n (pc2 := 1) hC dX2_isAllowed_0 rfl 0 rfl rfl ?_
  refine cg_C_apartAhead (pc2 := 4) hC hi_X2_isAllowed_X2 lk_X2_isAllowed_1 dX2_isAllowed_1 rfl ?_
  refine jj_iload_n (pc2 := 5) hC dX2_isAllowed_4 rfl 1 rfl rfl ?_
  refine cl_C_apartAhead (pc2 := 6) hC hV.1 dX2_isAllowed_5 rfl ?_
  have hV := hV.2
  refine jj_iload_n (pc2 := 7) hC dX2_isAllowed_6 rfl 2 rfl rfl ?_
  refine jj_iand (pc2 := 8) hC dX2_isAllowed_7 rfl ?_
  refine jj_if_ne (pc2 := 11) hC 28 dX2_isAllowed_8 (by decide) rfl (fun h1 => ?_) (fun h1 => ?_)
  · have hV := hV.1 h1
    refine jj_iconst (pc2 := 29) hC 0 dX2_isAllowed_28 (by decide) rfl ?_
    exact jj_zret hC jj_nb0 dX2_isAllowed_29 ⟨hV, rfl⟩
  · have hV := hV.2 h1
    refine jj_aload_n (pc2 := 12) hC dX2_isAllowed_11 rfl 0 rfl rfl ?_
    refine cg_C_togetherAhead (pc2 := 15) hC hi_X2_isAllowed_X2 lk_X2_isAllowed_2 dX2_isAllowed_12 rfl ?_
    refine jj_iload_n (pc2 := 16) hC dX2_isAllowed_15 rfl 1 rfl rfl ?_
    refine cl_C_togetherAhead (pc2 := 17) hC hV.1 dX2_isAllowed_16 rfl ?_
    have hV := hV.2
    refine jj_iload_n (pc2 := 18) hC dX2_isAllowed_17 rfl 2 rfl rfl ?_
    refine jj_iconst (pc2 := 19) hC (-1) dX2_isAllowed_18 (by decide) rfl ?_
    refine jj_ixor (pc2 := 20) hC dX2_isAllowed_19 rfl ?_
    refine jj_iand (pc2 := 21) hC dX2_isAllowed_20 rfl ?_
    refine jj_if_ne (pc2 := 24) hC 28 dX2_isAllowed_21 (by decide) rfl (fun h2 => ?_) (fun h2 => ?_)
    · have hV := hV.1 h2
      refine jj_iconst (pc2 := 29) hC 0 dX2_isAllowed_28 (by decide) rfl ?_
      exact jj_zret hC jj_nb0 dX2_isAllowed_29 ⟨hV, rfl⟩
    · have hV := hV.2 h2
      refine jj_iconst (pc2 := 25) hC 1 dX2_isAllowed_24 (by decide) rfl ?_
      refine jj_goto hC 29 dX2_isAllowed_25 (by decide) ?_
      exact jj_zret hC jj_nb1 dX2_isAllowed_29 ⟨hV, rfl⟩
theorem hi_X7_added_X7 : ∀ w ∈ u_ws RX7 TX7 5, w ∈ wsX7_added := fun _ h => List.mem_cons_of_mem _ (List.mem_append_left _ (List.mem_append_right _ h))
theorem lk_X7_added_1 : Cond.fieldLink RX7 9 "PartedHouse$Prices" "pairs" "[J" ∈ wsX7_added := List.mem_of_getElem? (i := 1) rfl
theorem lk_X7_added_6 : Cond.fieldLink RX7 31 "PartedHouse$Prices" "wholeWeight" "J" ∈ wsX7_added := List.mem_of_getElem? (i := 6) rfl
theorem hi_X7_added_X3 : ∀ w ∈ u_ws RX3 TX3 3, w ∈ wsX7_added := fun _ h => List.mem_cons_of_mem _ (List.mem_append_right _ h)
theorem lk_X7_added_5 : Cond.fieldLink RX7 79 "PartedHouse$HomeSets" "acts" "[I" ∈ wsX7_added := List.mem_of_getElem? (i := 5) rfl
theorem lk_X7_added_2 : Cond.fieldLink RX7 30 "PartedHouse$Prices" "homeSets" "LPartedHouse$HomeSets;" ∈ wsX7_added := List.mem_of_getElem? (i := 2) rfl
theorem lk_X7_added_4 : Cond.fieldLink RX7 66 "PartedHouse$HomeSets" "masks" "[I" ∈ wsX7_added := List.mem_of_getElem? (i := 4) rfl
theorem lk_X7_added_3 : Cond.fieldLink RX7 61 "PartedHouse$HomeSets" "size" "I" ∈ wsX7_added := List.mem_of_getElem? (i := 3) rfl
abbrev rm_X7_added : Room := { frames := 0, cells := 0, slots := 0, locals := 0 }
def vc_X7_added_5 (x1 : Int32) (x2 : Int32) (g0 : cm_M) (K41 : Int64 → Prop) (Post : Int64 → Prop) : Nat → Int64 → Int32 → Prop
  | 0, _, _ => False
  | f + 1, x3, x5 => ((x1 ≤ x5) → (K41 x3)) ∧ ((¬ x1 ≤ x5) → (((¬ ((x2 >>> (x5 &&& 31)) &&& 1) = 0) → (vc_X7_added_5 x1 x2 g0 K41 Post f x3 (x5 + 1))) ∧ ((((x2 >>> (x5 &&& 31)) &&& 1) = 0) → ((vp_in ((x1 * 10) + x5) 100) ∧ (∀ y3 : Int64, y3 = x3 + (g0.2.1 0 ((x1 * 10) + x5).toNatClampNeg) → (vc_X7_added_5 x1 x2 g0 K41 Post f y3 (x5 + 1)))))))
def vc_X7_added_51 (x1 : Int32) (x2 : Int32) (x5 : Int32) (g0 : cm_M) (Post : Int64 → Prop) : Nat → Int64 → Int32 → Prop
  | 0, _, _ => False
  | f + 1, x3, x6 => (((g0.2.2 36 0) ≤ x6) → (Post x3)) ∧ ((¬ (g0.2.2 36 0) ≤ x6) → ((vp_in x6 (g0.1.2.1 0)) ∧ (∀ y7 : Int32, y7 = g0.2.2 34 x6.toNatClampNeg → (((((y7 >>> (x1 &&& 31)) &&& 1) = 0) → (vc_X7_added_51 x1 x2 x5 g0 Post f x3 (x6 + 1))) ∧ ((¬ ((y7 >>> (x1 &&& 31)) &&& 1) = 0) → (((¬ (y7 &&& x2) = 0) → (vc_X7_added_51 x1 x2 x5 g0 Post f x3 (x6 + 1))) ∧ (((y7 &&& x2) = 0) → ((((y7 &&& x5) = 0) → (vc_X7_added_51 x1 x2 x5 g0 Post f x3 (x6 + 1))) ∧ ((¬ (y7 &&& x5) = 0) → ((vp_in x6 (g0.1.2.1 1)) ∧ (∀ y14 : Int64, y14 = x3 + (((g0.2.2 35 x6.toNatClampNeg).toInt64) * (g0.2.1 1 0)) → (vc_X7_added_51 x1 x2 x5 g0 Post f y14 (x6 + 1)))))))))))))
def vc_X7_added (a1 : Int32) (a2 : Int32) (g0 : cm_M) (Post : Int64 → Prop) : Prop := ∃ n16 : Nat, vc_X7_added_5 a1 a2 g0 (fun (y4 : Int64) => ∀ y5 : Int32, y5 = ((1 : Int32) <<< (a1 &&& 31)) - 1 → (∃ n15 : Nat, vc_X7_added_51 a1 a2 y5 g0 Post n15 y4 0)) Post n16 0 0
set_option maxHeartbeats 4000000 in
set_option maxRecDepth 100000 in
theorem ac_X7_added_5 {p : Program} {l : Launch} {e : Env} {s : State} {m : MethodId} {args : Array Value} {below : List Frame} {meth : Method} {c : Code} {D : va_G} {cs : Nat → ClassId} {Y X : va_W} {ad : Nat → Nat} {g0 : cm_M} (hC : JC p s m args meth c D vwCl (va_A (wc_d Y X cs ad g0) s.heap.size) 9 cX7_added (some .long) wsX7_added RX7 (jt_tys cs)) (x1 : Int32) (x2 : Int32) (Post : Int64 → Prop) (K41 : Int64 → Prop) (hK41 : ∀ (z3 : Int64) , K41 z3 → JJ (wc_d Y X cs ad) p l e rm_X7_added s m args below meth c D vwCl (va_A (wc_d Y X cs ad g0) s.heap.size) 9 0 0 (MQ below (jj_QL (wc_d Y X cs ad) D vwCl (jt_tys cs) g0 s.heap.size (fun r g2 => Post r ∧ g2 = g0)) args s 0 0 (va_A (wc_d Y X cs ad g0) s.heap.size)) 41 [(0, .ref (ad 6)), (1, .int x1), (2, .int x2), (3, .long z3)] [] g0) : ∀ (f : Nat) (x3 : Int64) (x5 : Int32), vc_X7_added_5 x1 x2 g0 K41 Post f x3 x5 → JJ (wc_d Y X cs ad) p l e rm_X7_added s m args below meth c D vwCl (va_A (wc_d Y X cs ad g0) s.heap.size) 9 0 0 (MQ below (jj_QL (wc_d Y X cs ad) D vwCl (jt_tys cs) g0 s.heap.size (fun r g2 => Post r ∧ g2 = g0)) args s 0 0 (va_A (wc_d Y X cs ad g0) s.heap.size)) 5 [(0, .ref (ad 6)), (1, .int x1), (2, .int x2), (3, .long x3), (5, .int x5)] [] g0 := by
  intro f
  induction f with
  | zero => intro x3 x5 hV; exact hV.elim
  | succ f ih =>
    intro x3 x5 hV
    rw [vc_X7_added_5] at hV
    refine jj_iload (pc2 := 7) hC dX7_added_5 4 rfl rfl ?_
    refine jj_iload_n (pc2 := 8) hC dX7_added_7 rfl 1 rfl rfl ?_
    refine jj_icmp_ge (pc2 := 11) hC 41 dX7_added_8 (by decide) rfl (fun h1 => ?_) (fun h1 => ?_)
    · have hV := hV.1 h1
      exact jj_sub (lv2 := [(0, .ref (ad 6)), (1, .int x1), (2, .int x2), (3, .long x3)]) [0, 1, 2, 3] rfl (hK41 x3 hV)
    · have hV := hV.2 h1
      refine jj_iload_n (pc2 := 12) hC dX7_added_11 rfl 2 rfl rfl ?_
      refine jj_iload (pc2 := 14) hC dX7_added_12 4 rfl rfl ?_
      refine jj_ishr (pc2 := 15) hC dX7_added_14 rfl ?_
      refine jj_iconst (pc2 := 16) hC 1 dX7_added_15 (by decide) rfl ?_
      refine jj_iand (pc2 := 17) hC dX7_added_16 rfl ?_
      refine jj_if_ne (pc2 := 20) hC 35 dX7_added_17 (by decide) rfl (fun h2 => ?_) (fun h2 => ?_)
      · have hV := hV.1 h2
        refine jj_iinc (pc2 := 38) hC (x5 + 1) [(5, .int (x5 + 1)), (0, .ref (ad 6)), (1, .int x1), (2, .int x2), (3, .long x3)] dX7_added_35 4 rfl rfl (by decide) rfl rfl ?_
        refine jj_goto hC 5 dX7_added_38 (by decide) ?_
        exact jj_sub (lv2 := [(0, .ref (ad 6)), (1, .int x1), (2, .int x2), (3, .long x3), (5, .int (x5 + 1))]) [1, 2, 3, 4, 0] rfl (ih x3 (x5 + 1) hV)
      · have hV := hV.2 h2
        refine jj_lload_n (pc2 := 21) hC dX7_added_20 rfl 3 rfl rfl ?_
        refine jj_aload_n (pc2 := 22) hC dX7_added_21 rfl 0 rfl rfl ?_
        refine cg_P_pairs (pc2 := 25) hC hi_X7_added_X7 lk_X7_added_1 dX7_added_22 rfl ?_
        refine jj_iload_n (pc2 := 26) hC dX7_added_25 rfl 1 rfl rfl ?_
        refine jj_bipush (pc2 := 28) hC 10 dX7_added_26 (by decide) rfl ?_
        refine jj_imul (pc2 := 29) hC dX7_added_28 rfl ?_
        refine jj_iload (pc2 := 31) hC dX7_added_29 4 rfl rfl ?_
        refine jj_iadd (pc2 := 32) hC dX7_added_31 rfl ?_
        refine cl_P_pairs (pc2 := 33) hC hV.1 dX7_added_32 rfl ?_
        have hV := hV.2
        refine jj_ladd (pc2 := 34) hC dX7_added_33 rfl ?_
        refine jj_topl (fun y3 ey3 => ?_)
        have hV := hV y3 ey3
        refine jj_lstore_n (pc2 := 35) hC [(3, .long y3), (0, .ref (ad 6)), (1, .int x1), (2, .int x2), (5, .int x5)] dX7_added_34 rfl (by decide) rfl rfl ?_
        refine jj_iinc (pc2 := 38) hC (x5 + 1) [(5, .int (x5 + 1)), (3, .long y3), (0, .ref (ad 6)), (1, .int x1), (2, .int x2)] dX7_added_35 4 rfl rfl (by decide) rfl rfl ?_
        refine jj_goto hC 5 dX7_added_38 (by decide) ?_
        exact jj_sub (lv2 := [(0, .ref (ad 6)), (1, .int x1), (2, .int x2), (3, .long y3), (5, .int (x5 + 1))]) [2, 3, 4, 1, 0] rfl (ih y3 (x5 + 1) hV)
set_option maxHeartbeats 4000000 in
set_option maxRecDepth 100000 in
theorem ac_X7_added_51 {p : Program} {l : Launch} {e : Env} {s : State} {m : MethodId} {args : Array Value} {below : List Frame} {meth : Method} {c : Code} {D : va_G} {cs : Nat → ClassId} {Y X : va_W} {ad : Nat → Nat} {g0 : cm_M} (hC : JC p s m args meth c D vwCl (va_A (wc_d Y X cs ad g0) s.heap.size) 9 cX7_added (some .long) wsX7_added RX7 (jt_tys cs)) (x1 : Int32) (x2 : Int32) (x5 : Int32) (Post : Int64 → Prop) : ∀ (f : Nat) (x3 : Int64) (x6 : Int32), vc_X7_added_51 x1 x2 x5 g0 Post f x3 x6 → JJ (wc_d Y X cs ad) p l e rm_X7_added s m args below meth c D vwCl (va_A (wc_d Y X cs ad g0) s.heap.size) 9 0 0 (MQ below (jj_QL (wc_d Y X cs ad) D vwCl (jt_tys cs) g0 s.heap.size (fun r g2 => Post r ∧ g2 = g0)) args s 0 0 (va_A (wc_d Y X cs ad g0) s.heap.size)) 51 [(0, .ref (ad 6)), (1, .int x1), (2, .int x2), (3, .long x3), (5, .int x5), (6, .int x6)] [] g0 := by
  intro f
  induction f with
  | zero => intro x3 x6 hV; exact hV.elim
  | succ f ih =>
    intro x3 x6 hV
    rw [vc_X7_added_51] at hV
    refine jj_iload (pc2 := 53) hC dX7_added_51 5 rfl rfl ?_
    refine jj_aload_n (pc2 := 54) hC dX7_added_53 rfl 0 rfl rfl ?_
    refine cg_P_homeSets (pc2 := 57) hC hi_X7_added_X7 lk_X7_added_2 dX7_added_54 rfl ?_
    refine cg_S_size (pc2 := 60) hC hi_X7_added_X3 lk_X7_added_3 dX7_added_57 rfl ?_
    refine jj_icmp_ge (pc2 := 63) hC 136 dX7_added_60 (by decide) rfl (fun h6 => ?_) (fun h6 => ?_)
    · have hV := hV.1 h6
      refine jj_lload_n (pc2 := 137) hC dX7_added_136 rfl 3 rfl rfl ?_
      exact jj_lret hC dX7_added_137 ⟨hV, rfl⟩
    · have hV := hV.2 h6
      refine jj_aload_n (pc2 := 64) hC dX7_added_63 rfl 0 rfl rfl ?_
      refine cg_P_homeSets (pc2 := 67) hC hi_X7_added_X7 lk_X7_added_2 dX7_added_64 rfl ?_
      refine cg_S_masks (pc2 := 70) hC hi_X7_added_X3 lk_X7_added_4 dX7_added_67 rfl ?_
      refine jj_iload (pc2 := 72) hC dX7_added_70 5 rfl rfl ?_
      refine cl_S_masks (pc2 := 73) hC hV.1 dX7_added_72 rfl ?_
      have hV := hV.2
      refine jj_topi (fun y7 ey7 => ?_)
      have hV := hV y7 ey7
      refine jj_istore (pc2 := 75) hC [(7, .int y7), (0, .ref (ad 6)), (1, .int x1), (2, .int x2), (3, .long x3), (5, .int x5), (6, .int x6)] dX7_added_73 (by decide) rfl rfl ?_
      refine jj_iload (pc2 := 77) hC dX7_added_75 0 rfl rfl ?_
      refine jj_iload_n (pc2 := 78) hC dX7_added_77 rfl 2 rfl rfl ?_
      refine jj_ishr (pc2 := 79) hC dX7_added_78 rfl ?_
      refine jj_iconst (pc2 := 80) hC 1 dX7_added_79 (by decide) rfl ?_
      refine jj_iand (pc2 := 81) hC dX7_added_80 rfl ?_
      refine jj_if_eq (pc2 := 84) hC 95 dX7_added_81 (by decide) rfl (fun h8 => ?_) (fun h8 => ?_)
      · have hV := hV.1 h8
        refine jj_iconst (pc2 := 96) hC 0 dX7_added_95 (by decide) rfl ?_
        refine jj_istore (pc2 := 98) hC [(8, .int 0), (7, .int y7), (0, .ref (ad 6)), (1, .int x1), (2, .int x2), (3, .long x3), (5, .int x5), (6, .int x6)] dX7_added_96 (by decide) rfl rfl ?_
        refine jj_iload (pc2 := 100) hC dX7_added_98 0 rfl rfl ?_
        refine jj_if_eq (pc2 := 103) hC 130 dX7_added_100 (by decide) rfl (fun _ => ?_) (fun h9 => absurd h9 (by decide))
        refine jj_iinc (pc2 := 133) hC (x6 + 1) [(6, .int (x6 + 1)), (8, .int 0), (7, .int y7), (0, .ref (ad 6)), (1, .int x1), (2, .int x2), (3, .long x3), (5, .int x5)] dX7_added_130 7 rfl rfl (by decide) rfl rfl ?_
        refine jj_goto hC 51 dX7_added_133 (by decide) ?_
        exact jj_sub (lv2 := [(0, .ref (ad 6)), (1, .int x1), (2, .int x2), (3, .long x3), (5, .int x5), (6, .int (x6 + 1))]) [3, 4, 5, 6, 7, 0] rfl (ih x3 (x6 + 1) hV)
      · have hV := hV.2 h8
        refine jj_iload (pc2 := 86) hC dX7_added_84 0 rfl rfl ?_
        refine jj_iload_n (pc2 := 87) hC dX7_added_86 rfl 3 rfl rfl ?_
        refine jj_iand (pc2 := 88) hC dX7_added_87 rfl ?_
        refine jj_if_ne (pc2 := 91) hC 95 dX7_added_88 (by decide) rfl (fun h10 => ?_) (fun h10 => ?_)
        · have hV := hV.1 h10
          refine jj_iconst (pc2 := 96) hC 0 dX7_added_95 (by decide) rfl ?_
          refine jj_istore (pc2 := 98) hC [(8, .int 0), (7, .int y7), (0, .ref (ad 6)), (1, .int x1), (2, .int x2), (3, .long x3), (5, .int x5), (6, .int x6)] dX7_added_96 (by decide) rfl rfl ?_
          refine jj_iload (pc2 := 100) hC dX7_added_98 0 rfl rfl ?_
          refine jj_if_eq (pc2 := 103) hC 130 dX7_added_100 (by decide) rfl (fun _ => ?_) (fun h11 => absurd h11 (by decide))
          refine jj_iinc (pc2 := 133) hC (x6 + 1) [(6, .int (x6 + 1)), (8, .int 0), (7, .int y7), (0, .ref (ad 6)), (1, .int x1), (2, .int x2), (3, .long x3), (5, .int x5)] dX7_added_130 7 rfl rfl (by decide) rfl rfl ?_
          refine jj_goto hC 51 dX7_added_133 (by decide) ?_
          exact jj_sub (lv2 := [(0, .ref (ad 6)), (1, .int x1), (2, .int x2), (3, .long x3), (5, .int x5), (6, .int (x6 + 1))]) [3, 4, 5, 6, 7, 0] rfl (ih x3 (x6 + 1) hV)
        · have hV := hV.2 h10
          refine jj_iconst (pc2 := 92) hC 1 dX7_added_91 (by decide) rfl ?_
          refine jj_goto hC 96 dX7_added_92 (by decide) ?_
          refine jj_istore (pc2 := 98) hC [(8, .int 1), (7, .int y7), (0, .ref (ad 6)), (1, .int x1), (2, .int x2), (3, .long x3), (5, .int x5), (6, .int x6)] dX7_added_96 (by decide) rfl rfl ?_
          refine jj_iload (pc2 := 100) hC dX7_added_98 0 rfl rfl ?_
          refine jj_if_eq (pc2 := 103) hC 130 dX7_added_100 (by decide) rfl (fun h12 => absurd h12 (by decide)) (fun _ => ?_)
          refine jj_iload (pc2 := 105) hC dX7_added_103 1 rfl rfl ?_
          refine jj_iload (pc2 := 107) hC dX7_added_105 6 rfl rfl ?_
          refine jj_iand (pc2 := 108) hC dX7_added_107 rfl ?_
          refine jj_if_eq (pc2 := 111) hC 130 dX7_added_108 (by decide) rfl (fun h13 => ?_) (fun h13 => ?_)
          · have hV := hV.1 h13
            refine jj_iinc (pc2 := 133) hC (x6 + 1) [(6, .int (x6 + 1)), (8, .int 1), (7, .int y7), (0, .ref (ad 6)), (1, .int x1), (2, .int x2), (3, .long x3), (5, .int x5)] dX7_added_130 7 rfl rfl (by decide) rfl rfl ?_
            refine jj_goto hC 51 dX7_added_133 (by decide) ?_
            exact jj_sub (lv2 := [(0, .ref (ad 6)), (1, .int x1), (2, .int x2), (3, .long x3), (5, .int x5), (6, .int (x6 + 1))]) [3, 4, 5, 6, 7, 0] rfl (ih x3 (x6 + 1) hV)
          · have hV := hV.2 h13
            refine jj_lload_n (pc2 := 112) hC dX7_added_111 rfl 5 rfl rfl ?_
            refine jj_aload_n (pc2 := 113) hC dX7_added_112 rfl 2 rfl rfl ?_
            refine cg_P_homeSets (pc2 := 116) hC hi_X7_added_X7 lk_X7_added_2 dX7_added_113 rfl ?_
            refine cg_S_acts (pc2 := 119) hC hi_X7_added_X3 lk_X7_added_5 dX7_added_116 rfl ?_
            refine jj_iload (pc2 := 121) hC dX7_added_119 7 rfl rfl ?_
            refine cl_S_acts (pc2 := 122) hC hV.1 dX7_added_121 rfl ?_
            have hV := hV.2
            refine jj_i2l (pc2 := 123) hC dX7_added_122 rfl ?_
            refine jj_aload_n (pc2 := 124) hC dX7_added_123 rfl 2 rfl rfl ?_
            refine cg_P_wholeWeight (pc2 := 127) hC hi_X7_added_X7 lk_X7_added_6 dX7_added_124 rfl ?_
            refine jj_lmul (pc2 := 128) hC dX7_added_127 rfl ?_
            refine jj_ladd (pc2 := 129) hC dX7_added_128 rfl ?_
            refine jj_topl (fun y14 ey14 => ?_)
            have hV := hV y14 ey14
            refine jj_lstore_n (pc2 := 130) hC [(3, .long y14), (8, .int 1), (7, .int y7), (0, .ref (ad 6)), (1, .int x1), (2, .int x2), (5, .int x5), (6, .int x6)] dX7_added_129 rfl (by decide) rfl rfl ?_
            refine jj_iinc (pc2 := 133) hC (x6 + 1) [(6, .int (x6 + 1)), (3, .long y14), (8, .int 1), (7, .int y7), (0, .ref (ad 6)), (1, .int x1), (2, .int x2), (5, .int x5)] dX7_added_130 7 rfl rfl (by decide) rfl rfl ?_
            refine jj_goto hC 51 dX7_added_133 (by decide) ?_
            exact jj_sub (lv2 := [(0, .ref (ad 6)), (1, .int x1), (2, .int x2), (3, .long y14), (5, .int x5), (6, .int (x6 + 1))]) [4, 5, 6, 1, 7, 0] rfl (ih y14 (x6 + 1) hV)
set_option maxHeartbeats 4000000 in
set_option maxRecDepth 100000 in
theorem kc_X7_added (l : Launch) (D : va_G) (cs : Nat → ClassId) (Y X : va_W) (ad : Nat → Nat) (a1 : Int32) (a2 : Int32) (g0 : cm_M) (Post : Int64 → Prop) (hV : vc_X7_added a1 a2 g0 Post) : JL (wc_d Y X cs ad) D vwCl (jt_tys cs) l yX7_added wsX7_added rm_X7_added 0 0 [.ref (ad 6), .int a1, .int a2] g0 (fun r g2 => Post r ∧ g2 = g0) := by
  refine jj_metL (cc := cX7_added) (nL := 9) (ret := (some .long)) (by decide) rfl (Nat.le_of_ble_eq_true rfl) [(0, .ref (ad 6)), (1, .int a1), (2, .int a2)] rfl ?_
  intro p e s m args below meth c hC hnm
  rw [vc_X7_added] at hV
  refine jj_lconst (pc2 := 1) hC 0 dX7_added_0 (by decide) rfl ?_
  refine jj_lstore_n (pc2 := 2) hC [(3, .long 0), (0, .ref (ad 6)), (1, .int a1), (2, .int a2)] dX7_added_1 rfl (by decide) rfl rfl ?_
  refine jj_iconst (pc2 := 3) hC 0 dX7_added_2 (by decide) rfl ?_
  refine jj_istore (pc2 := 5) hC [(5, .int 0), (3, .long 0), (0, .ref (ad 6)), (1, .int a1), (2, .int a2)] dX7_added_3 (by decide) rfl rfl ?_
  obtain ⟨n16, hV⟩ := hV
  refine jj_sub (lv2 := [(0, .ref (ad 6)), (1, .int a1), (2, .int a2), (3, .long 0), (5, .int 0)]) [2, 3, 4, 1, 0] rfl (ac_X7_added_5 hC a1 a2 Post _ (fun y4 hV => ?_) n16 0 0 hV)
  refine jj_iconst (pc2 := 42) hC 1 dX7_added_41 (by decide) rfl ?_
  refine jj_iload_n (pc2 := 43) hC dX7_added_42 rfl 1 rfl rfl ?_
  refine jj_ishl (pc2 := 44) hC dX7_added_43 rfl ?_
  refine jj_iconst (pc2 := 45) hC 1 dX7_added_44 (by decide) rfl ?_
  refine jj_isub (pc2 := 46) hC dX7_added_45 rfl ?_
  refine jj_topi (fun y5 ey5 => ?_)
  have hV := hV y5 ey5
  refine jj_istore (pc2 := 48) hC [(5, .int y5), (0, .ref (ad 6)), (1, .int a1), (2, .int a2), (3, .long y4)] dX7_added_46 (by decide) rfl rfl ?_
  refine jj_iconst (pc2 := 49) hC 0 dX7_added_48 (by decide) rfl ?_
  refine jj_istore (pc2 := 51) hC [(6, .int 0), (5, .int y5), (0, .ref (ad 6)), (1, .int a1), (2, .int a2), (3, .long y4)] dX7_added_49 (by decide) rfl rfl ?_
  obtain ⟨n15, hV⟩ := hV
  refine jj_sub (lv2 := [(0, .ref (ad 6)), (1, .int a1), (2, .int a2), (3, .long y4), (5, .int y5), (6, .int 0)]) [2, 3, 4, 5, 1, 0] rfl (ac_X7_added_51 hC a1 a2 y5 Post n15 y4 0 hV)
theorem lk_X2_place_7 : Cond.methodLink RX2 72 arraycopyName ∈ wsX2_place := List.mem_of_getElem? (i := 7) rfl
theorem lk_X2_place_8 : Cond.native arraycopyName ∈ wsX2_place := List.mem_of_getElem? (i := 8) rfl
theorem lk_X2_place_9 : Cond.static arraycopyName ∈ wsX2_place := List.mem_of_getElem? (i := 9) rfl
theorem lk_X2_place_10 : Cond.initialized "java/lang/System" ∈ wsX2_place := List.mem_of_getElem? (i := 10) rfl
theorem hi_X2_place_X2 : ∀ w ∈ u_ws RX2 TX2 14, w ∈ wsX2_place := fun _ h => List.mem_cons_of_mem _ (List.mem_append_left _ (List.mem_append_left _ (List.mem_append_left _ (List.mem_append_right _ h))))
theorem lk_X2_place_6 : Cond.fieldLink RX2 21 "PartedHouse$Cutter" "foundRooms" "[I" ∈ wsX2_place := List.mem_of_getElem? (i := 6) rfl
theorem lk_X2_place_5 : Cond.fieldLink RX2 18 "PartedHouse$Cutter" "rooms" "[I" ∈ wsX2_place := List.mem_of_getElem? (i := 5) rfl
theorem lk_X2_place_2 : Cond.fieldLink RX2 86 "PartedHouse$Cutter" "leastPrice" "J" ∈ wsX2_place := List.mem_of_getElem? (i := 2) rfl
theorem lk_X2_place_1 : Cond.fieldLink RX2 54 "PartedHouse$Cutter" "found" "Z" ∈ wsX2_place := List.mem_of_getElem? (i := 1) rfl
theorem lk_X2_place_13 : Cond.fieldLink RX2 15 "PartedHouse$Cutter" "loads" "[I" ∈ wsX2_place := List.mem_of_getElem? (i := 13) rfl
theorem lk_X2_place_15 : Cond.fieldLink RX2 9 "PartedHouse$Cutter" "members" "[I" ∈ wsX2_place := List.mem_of_getElem? (i := 15) rfl
theorem lk_X2_place_16 : Cond.fieldLink RX2 37 "PartedHouse$Cutter" "prices" "LPartedHouse$Prices;" ∈ wsX2_place := List.mem_of_getElem? (i := 16) rfl
theorem lk_X2_place_14 : Cond.fieldLink RX2 51 "PartedHouse$Cutter" "most" "I" ∈ wsX2_place := List.mem_of_getElem? (i := 14) rfl
theorem lk_X2_place_12 : Cond.fieldLink RX2 47 "PartedHouse$Cutter" "roomCount" "I" ∈ wsX2_place := List.mem_of_getElem? (i := 12) rfl
theorem hi_X2_place_X9 : ∀ w ∈ u_ws RX9 TX9 11, w ∈ wsX2_place := fun _ h => List.mem_cons_of_mem _ (List.mem_append_left _ (List.mem_append_left _ (List.mem_append_right _ h)))
theorem lk_X2_place_11 : Cond.fieldLink RX2 90 "PartedHouse$Text" "sizes" "[I" ∈ wsX2_place := List.mem_of_getElem? (i := 11) rfl
theorem lk_X2_place_3 : Cond.fieldLink RX2 33 "PartedHouse$Cutter" "text" "LPartedHouse$Text;" ∈ wsX2_place := List.mem_of_getElem? (i := 3) rfl
theorem lk_X2_place_4 : Cond.fieldLink RX2 78 "PartedHouse$Text" "modules" "I" ∈ wsX2_place := List.mem_of_getElem? (i := 4) rfl
abbrev rm_X2_place (d : Nat) : Room := { frames := d + 1, cells := 0, slots := 0, locals := 28 * d + 40 }
def vc_X2_place_74 (REC : Int32 → Int32 → Int64 → cm_M → (cm_M → Prop) → Prop) (x1 : Int32) (x2 : Int32) (x3 : Int64) (x5 : Int32) (Post : cm_M → Prop) : Nat → Int32 → cm_M → Prop
  | 0, _, _ => False
  | f + 1, x6, g => ((x2 < x6) → (Post g)) ∧ ((¬ x2 < x6) → ((((g.2.2 48 0) ≤ x6) → (Post g)) ∧ ((¬ (g.2.2 48 0) ≤ x6) → ((vp_in x6 6) ∧ ((((g.2.2 49 0) < ((g.2.2 43 x6.toNatClampNeg) + x5)) → (vc_X2_place_74 REC x1 x2 x3 x5 Post f (x6 + 1) g)) ∧ ((¬ (g.2.2 49 0) < ((g.2.2 43 x6.toNatClampNeg) + x5)) → ((vp_in x6 6) ∧ (vc_X2_isAllowed x1 (g.2.2 42 x6.toNatClampNeg) g (fun (r11 : Int32) => ((r11 = 0) → (vc_X2_place_74 REC x1 x2 x3 x5 Post f (x6 + 1) g)) ∧ ((¬ r11 = 0) → ((vp_in x6 6) ∧ (vc_X7_added x1 (g.2.2 42 x6.toNatClampNeg) g (fun (r13 : Int64) => (vp_in x1 9) ∧ (∀ g14 : cm_M, g14 = cm_a g 44 x1 x6 → ((vp_in x6 6) ∧ ((vp_in x6 6) ∧ (∀ g15 : cm_M, g15 = cm_a g14 42 x6 ((g14.2.2 42 x6.toNatClampNeg) ||| ((1 : Int32) <<< (x1 &&& 31))) → ((vp_in x6 6) ∧ ((vp_in x6 6) ∧ (∀ g16 : cm_M, g16 = cm_a g15 43 x6 ((g15.2.2 43 x6.toNatClampNeg) + x5) → (((¬ x6 = x2) → (REC (x1 + 1) x2 (x3 + r13) g16 (fun (g19 : cm_M) => (vp_in x6 6) ∧ ((vp_in x6 6) ∧ (∀ g20 : cm_M, g20 = cm_a g19 42 x6 ((g19.2.2 42 x6.toNatClampNeg) &&& (((1 : Int32) <<< (x1 &&& 31)) ^^^ (-1))) → ((vp_in x6 6) ∧ ((vp_in x6 6) ∧ (∀ g21 : cm_M, g21 = cm_a g20 43 x6 ((g20.2.2 43 x6.toNatClampNeg) - x5) → (vc_X2_place_74 REC x1 x2 x3 x5 Post f (x6 + 1) g21))))))))) ∧ ((x6 = x2) → (REC (x1 + 1) (x2 + 1) (x3 + r13) g16 (fun (g23 : cm_M) => (vp_in x6 6) ∧ ((vp_in x6 6) ∧ (∀ g24 : cm_M, g24 = cm_a g23 42 x6 ((g23.2.2 42 x6.toNatClampNeg) &&& (((1 : Int32) <<< (x1 &&& 31)) ^^^ (-1))) → ((vp_in x6 6) ∧ ((vp_in x6 6) ∧ (∀ g25 : cm_M, g25 = cm_a g24 43 x6 ((g24.2.2 43 x6.toNatClampNeg) - x5) → (vc_X2_place_74 REC x1 x2 x3 x5 Post f (x6 + 1) g25))))))))))))))))))))))))))))))
def vc_X2_place_B (REC : Int32 → Int32 → Int64 → cm_M → (cm_M → Prop) → Prop) (a1 : Int32) (a2 : Int32) (a3 : Int64) (g0 : cm_M) (Post : cm_M → Prop) : Prop := (((g0.2.2 50 0) = 0) → ((((g0.2.2 12 0) ≤ a1) → (∀ g3 : cm_M, g3 = cm_s g0 50 1 → (∀ g4 : cm_M, g4 = cm_ls g3 2 a3 → (∀ g5 : cm_M, g5 = cm_u g4 45 (va_cpy (g4.2.2 44) (g4.2.2 45) 0 0 9) → (Post g5))))) ∧ ((¬ (g0.2.2 12 0) ≤ a1) → (((a1 < 9) → ((vp_in a1 10) ∧ (∀ y7 : Int32, y7 = g0.2.2 4 a1.toNatClampNeg → (∃ n26 : Nat, vc_X2_place_74 REC a1 a2 a3 y7 Post n26 0 g0)))) ∧ ((¬ a1 < 9) → (∀ g27 : cm_M, g27 = cm_s g0 50 1 → (∀ g28 : cm_M, g28 = cm_ls g27 2 a3 → (∀ g29 : cm_M, g29 = cm_u g28 45 (va_cpy (g28.2.2 44) (g28.2.2 45) 0 0 9) → (Post g29))))))))) ∧ ((¬ (g0.2.2 50 0) = 0) → ((((lg_cmp a3 (g0.2.1 2 0)) < 0) → ((((g0.2.2 12 0) ≤ a1) → (∀ g32 : cm_M, g32 = cm_s g0 50 1 → (∀ g33 : cm_M, g33 = cm_ls g32 2 a3 → (∀ g34 : cm_M, g34 = cm_u g33 45 (va_cpy (g33.2.2 44) (g33.2.2 45) 0 0 9) → (Post g34))))) ∧ ((¬ (g0.2.2 12 0) ≤ a1) → (((a1 < 9) → ((vp_in a1 10) ∧ (∀ y36 : Int32, y36 = g0.2.2 4 a1.toNatClampNeg → (∃ n37 : Nat, vc_X2_place_74 REC a1 a2 a3 y36 Post n37 0 g0)))) ∧ ((¬ a1 < 9) → (∀ g38 : cm_M, g38 = cm_s g0 50 1 → (∀ g39 : cm_M, g39 = cm_ls g38 2 a3 → (∀ g40 : cm_M, g40 = cm_u g39 45 (va_cpy (g39.2.2 44) (g39.2.2 45) 0 0 9) → (Post g40))))))))) ∧ ((¬ (lg_cmp a3 (g0.2.1 2 0)) < 0) → (Post g0))))
def vc_X2_place : Nat → Int32 → Int32 → Int64 → cm_M → (cm_M → Prop) → Prop
  | 0, _, _, _, _, _ => False
  | d + 1, a1, a2, a3, g0, Post => vc_X2_place_B (vc_X2_place d) a1 a2 a3 g0 Post
set_option maxHeartbeats 4000000 in
set_option maxRecDepth 100000 in
theorem ac_X2_place_74 {p : Program} {l : Launch} {e : Env} {s : State} {m : MethodId} {args : Array Value} {below : List Frame} {meth : Method} {c : Code} {D : va_G} {cs : Nat → ClassId} {Y X : va_W} {ad : Nat → Nat} {g0 : cm_M} {d : Nat} {REC : Int32 → Int32 → Int64 → cm_M → (cm_M → Prop) → Prop} (hRec : ∀ (a1 : Int32) (a2 : Int32) (a3 : Int64) (g0 : cm_M) (Post : cm_M → Prop), REC a1 a2 a3 g0 Post → JV (wc_d Y X cs ad) D vwCl (jt_tys cs) l yX2_place wsX2_place (rm_X2_place d) 0 0 [.ref (ad 7), .int a1, .int a2, .long a3] g0 Post) (hC : JC p s m args meth c D vwCl (va_A (wc_d Y X cs ad g0) s.heap.size) 9 cX2_place none wsX2_place RX2 (jt_tys cs)) (x1 : Int32) (x2 : Int32) (x3 : Int64) (x5 : Int32) (Post : cm_M → Prop) : ∀ (f : Nat) (x6 : Int32) (g : cm_M), vc_X2_place_74 REC x1 x2 x3 x5 Post f x6 g → JJ (wc_d Y X cs ad) p l e (rm_X2_place (d + 1)) s m args below meth c D vwCl (va_A (wc_d Y X cs ad g0) s.heap.size) 9 0 0 (MQ below (jj_QV (wc_d Y X cs ad) D vwCl (jt_tys cs) g0 s.heap.size Post) args s 0 0 (va_A (wc_d Y X cs ad g0) s.heap.size)) 74 [(0, .ref (ad 7)), (1, .int x1), (2, .int x2), (3, .long x3), (5, .int x5), (6, .int x6)] [] g := by
  intro f
  induction f with
  | zero => intro x6 g hV; exact hV.elim
  | succ f ih =>
    intro x6 g hV
    rw [vc_X2_place_74] at hV
    refine jj_iload (pc2 := 76) hC dX2_place_74 5 rfl rfl ?_
    refine jj_iload_n (pc2 := 77) hC dX2_place_76 rfl 2 rfl rfl ?_
    refine jj_icmp_gt (pc2 := 80) hC 228 dX2_place_77 (by decide) rfl (fun h8 => ?_) (fun h8 => ?_)
    · have hV := hV.1 h8
      exact jj_vret hC dX2_place_228 hV
    · have hV := hV.2 h8
      refine jj_iload (pc2 := 82) hC dX2_place_80 5 rfl rfl ?_
      refine jj_aload_n (pc2 := 83) hC dX2_place_82 rfl 0 rfl rfl ?_
      refine cg_C_roomCount (pc2 := 86) hC hi_X2_place_X2 lk_X2_place_12 dX2_place_83 rfl ?_
      refine jj_icmp_ge (pc2 := 89) hC 228 dX2_place_86 (by decide) rfl (fun h9 => ?_) (fun h9 => ?_)
      · have hV := hV.1 h9
        exact jj_vret hC dX2_place_228 hV
      · have hV := hV.2 h9
        refine jj_aload_n (pc2 := 90) hC dX2_place_89 rfl 0 rfl rfl ?_
        refine cg_C_loads (pc2 := 93) hC hi_X2_place_X2 lk_X2_place_13 dX2_place_90 rfl ?_
        refine jj_iload (pc2 := 95) hC dX2_place_93 5 rfl rfl ?_
        refine cl_C_loads (pc2 := 96) hC hV.1 dX2_place_95 rfl ?_
        have hV := hV.2
        refine jj_iload (pc2 := 98) hC dX2_place_96 4 rfl rfl ?_
        refine jj_iadd (pc2 := 99) hC dX2_place_98 rfl ?_
        refine jj_aload_n (pc2 := 100) hC dX2_place_99 rfl 0 rfl rfl ?_
        refine cg_C_most (pc2 := 103) hC hi_X2_place_X2 lk_X2_place_14 dX2_place_100 rfl ?_
        refine jj_icmp_gt (pc2 := 106) hC 222 dX2_place_103 (by decide) rfl (fun h10 => ?_) (fun h10 => ?_)
        · have hV := hV.1 h10
          refine jj_iinc (pc2 := 225) hC (x6 + 1) [(6, .int (x6 + 1)), (0, .ref (ad 7)), (1, .int x1), (2, .int x2), (3, .long x3), (5, .int x5)] dX2_place_222 5 rfl rfl (by decide) rfl rfl ?_
          refine jj_goto hC 74 dX2_place_225 (by decide) ?_
          exact jj_sub (lv2 := [(0, .ref (ad 7)), (1, .int x1), (2, .int x2), (3, .long x3), (5, .int x5), (6, .int (x6 + 1))]) [1, 2, 3, 4, 5, 0] rfl (ih (x6 + 1) g hV)
        · have hV := hV.2 h10
          refine jj_aload_n (pc2 := 107) hC dX2_place_106 rfl 0 rfl rfl ?_
          refine jj_iload_n (pc2 := 108) hC dX2_place_107 rfl 1 rfl rfl ?_
          refine jj_aload_n (pc2 := 109) hC dX2_place_108 rfl 0 rfl rfl ?_
          refine cg_C_members (pc2 := 112) hC hi_X2_place_X2 lk_X2_place_15 dX2_place_109 rfl ?_
          refine jj_iload (pc2 := 114) hC dX2_place_112 5 rfl rfl ?_
          refine cl_C_members (pc2 := 115) hC hV.1 dX2_place_114 rfl ?_
          have hV := hV.2
          refine jj_cVIp (pc2 := 118) (wd := wc_d Y X cs ad) (g := g) (rest := []) hC (Y.length + 7) (jx_at (V := wc_W cs ad g) rfl) rfl rfl (kc_X2_isAllowed l D cs Y X ad x1 (g.2.2 42 x6.toNatClampNeg) g _ hV) (cwV 2 hC.1.2.2.2.2 gX2_place_X2_isAllowed rfl rfl rfl (by decide +kernel) ⟨by show 0 + 1 ≤ d + 1 + 1; omega, by show 8 + (3 + 11) + 0 ≤ 28 * (d + 1) + 40; omega⟩) rfl (Nat.le_of_ble_eq_true rfl) _ rfl dX2_place_115 ⟨Nat.zero_le _, Nat.zero_le _⟩ rfl (fun r11 hV => ?_)
          refine jj_if_eq (pc2 := 121) hC 222 dX2_place_118 (by decide) rfl (fun h12 => ?_) (fun h12 => ?_)
          · have hV := hV.1 h12
            refine jj_iinc (pc2 := 225) hC (x6 + 1) [(6, .int (x6 + 1)), (0, .ref (ad 7)), (1, .int x1), (2, .int x2), (3, .long x3), (5, .int x5)] dX2_place_222 5 rfl rfl (by decide) rfl rfl ?_
            refine jj_goto hC 74 dX2_place_225 (by decide) ?_
            exact jj_sub (lv2 := [(0, .ref (ad 7)), (1, .int x1), (2, .int x2), (3, .long x3), (5, .int x5), (6, .int (x6 + 1))]) [1, 2, 3, 4, 5, 0] rfl (ih (x6 + 1) g hV)
          · have hV := hV.2 h12
            refine jj_aload_n (pc2 := 122) hC dX2_place_121 rfl 0 rfl rfl ?_
            refine cg_C_prices (pc2 := 125) hC hi_X2_place_X2 lk_X2_place_16 dX2_place_122 rfl ?_
            refine jj_iload_n (pc2 := 126) hC dX2_place_125 rfl 1 rfl rfl ?_
            refine jj_aload_n (pc2 := 127) hC dX2_place_126 rfl 0 rfl rfl ?_
            refine cg_C_members (pc2 := 130) hC hi_X2_place_X2 lk_X2_place_15 dX2_place_127 rfl ?_
            refine jj_iload (pc2 := 132) hC dX2_place_130 5 rfl rfl ?_
            refine cl_C_members (pc2 := 133) hC hV.1 dX2_place_132 rfl ?_
            have hV := hV.2
            refine jj_cVLp (pc2 := 136) (wd := wc_d Y X cs ad) (g := g) (rest := []) hC (Y.length + 6) (jx_at (V := wc_W cs ad g) rfl) rfl rfl (kc_X7_added l D cs Y X ad x1 (g.2.2 42 x6.toNatClampNeg) g _ hV) (cwV 2 hC.1.2.2.2.2 gX2_place_X7_added rfl rfl rfl (by decide +kernel) ⟨by show 0 + 1 ≤ d + 1 + 1; omega, by show 8 + (9 + 11) + 0 ≤ 28 * (d + 1) + 40; omega⟩) rfl (Nat.le_of_ble_eq_true rfl) _ rfl dX2_place_133 ⟨Nat.zero_le _, Nat.zero_le _⟩ rfl (fun r13 hV => ?_)
            refine jj_lstore (pc2 := 138) hC [(7, .long r13), (0, .ref (ad 7)), (1, .int x1), (2, .int x2), (3, .long x3), (5, .int x5), (6, .int x6)] dX2_place_136 (by decide) rfl rfl ?_
            refine jj_aload_n (pc2 := 139) hC dX2_place_138 rfl 1 rfl rfl ?_
            refine cg_C_rooms (pc2 := 142) hC hi_X2_place_X2 lk_X2_place_5 dX2_place_139 rfl ?_
            refine jj_iload_n (pc2 := 143) hC dX2_place_142 rfl 2 rfl rfl ?_
            refine jj_iload (pc2 := 145) hC dX2_place_143 6 rfl rfl ?_
            refine ct_C_rooms (pc2 := 146) hC hV.1 dX2_place_145 rfl (fun g14 eg14 => ?_)
            have hV := hV.2 g14 eg14
            refine jj_aload_n (pc2 := 147) hC dX2_place_146 rfl 1 rfl rfl ?_
            refine cg_C_members (pc2 := 150) hC hi_X2_place_X2 lk_X2_place_15 dX2_place_147 rfl ?_
            refine jj_iload (pc2 := 152) hC dX2_place_150 6 rfl rfl ?_
            refine jj_dup2 (pc2 := 153) hC dX2_place_152 rfl rfl rfl ?_
            refine cl_C_members (pc2 := 154) hC hV.1 dX2_place_153 rfl ?_
            have hV := hV.2
            refine jj_iconst (pc2 := 155) hC 1 dX2_place_154 (by decide) rfl ?_
            refine jj_iload_n (pc2 := 156) hC dX2_place_155 rfl 2 rfl rfl ?_
            refine jj_ishl (pc2 := 157) hC dX2_place_156 rfl ?_
            refine jj_ior (pc2 := 158) hC dX2_place_157 rfl ?_
            refine ct_C_members (pc2 := 159) hC hV.1 dX2_place_158 rfl (fun g15 eg15 => ?_)
            have hV := hV.2 g15 eg15
            refine jj_aload_n (pc2 := 160) hC dX2_place_159 rfl 1 rfl rfl ?_
            refine cg_C_loads (pc2 := 163) hC hi_X2_place_X2 lk_X2_place_13 dX2_place_160 rfl ?_
            refine jj_iload (pc2 := 165) hC dX2_place_163 6 rfl rfl ?_
            refine jj_dup2 (pc2 := 166) hC dX2_place_165 rfl rfl rfl ?_
            refine cl_C_loads (pc2 := 167) hC hV.1 dX2_place_166 rfl ?_
            have hV := hV.2
            refine jj_iload (pc2 := 169) hC dX2_place_167 5 rfl rfl ?_
            refine jj_iadd (pc2 := 170) hC dX2_place_169 rfl ?_
            refine ct_C_loads (pc2 := 171) hC hV.1 dX2_place_170 rfl (fun g16 eg16 => ?_)
            have hV := hV.2 g16 eg16
            refine jj_aload_n (pc2 := 172) hC dX2_place_171 rfl 1 rfl rfl ?_
            refine jj_iload_n (pc2 := 173) hC dX2_place_172 rfl 2 rfl rfl ?_
            refine jj_iconst (pc2 := 174) hC 1 dX2_place_173 (by decide) rfl ?_
            refine jj_iadd (pc2 := 175) hC dX2_place_174 rfl ?_
            refine jj_iload (pc2 := 177) hC dX2_place_175 6 rfl rfl ?_
            refine jj_iload_n (pc2 := 178) hC dX2_place_177 rfl 3 rfl rfl ?_
            refine jj_icmp_ne (pc2 := 181) hC 187 dX2_place_178 (by decide) rfl (fun h17 => ?_) (fun h17 => ?_)
            · have hV := hV.1 h17
              refine jj_iload_n (pc2 := 188) hC dX2_place_187 rfl 3 rfl rfl ?_
              refine jj_lload_n (pc2 := 189) hC dX2_place_188 rfl 4 rfl rfl ?_
              refine jj_lload (pc2 := 191) hC dX2_place_189 0 rfl rfl ?_
              refine jj_ladd (pc2 := 192) hC dX2_place_191 rfl ?_
              refine jj_cVV (pc2 := 195) (wd := wc_d Y X cs ad) (g := g16) (rest := []) hC (Y.length + 7) (jx_at (V := wc_W cs ad g16) rfl) rfl rfl (hRec (x1 + 1) x2 (x3 + r13) g16 _ hV) (cwV 3 hC.1.2.2.2.2 gX2_place_X2_place rfl rfl rfl (by decide +kernel) ⟨by show d + 1 + 1 ≤ d + 1 + 1; omega, by show 8 + (9 + 11) + (28 * d + 40) ≤ 28 * (d + 1) + 40; omega⟩) rfl (Nat.le_of_ble_eq_true rfl) _ rfl dX2_place_192 ⟨Nat.zero_le _, Nat.zero_le _⟩ rfl (fun g19 hV => ?_)
              refine jj_aload_n (pc2 := 196) hC dX2_place_195 rfl 1 rfl rfl ?_
              refine cg_C_members (pc2 := 199) hC hi_X2_place_X2 lk_X2_place_15 dX2_place_196 rfl ?_
              refine jj_iload (pc2 := 201) hC dX2_place_199 6 rfl rfl ?_
              refine jj_dup2 (pc2 := 202) hC dX2_place_201 rfl rfl rfl ?_
              refine cl_C_members (pc2 := 203) hC hV.1 dX2_place_202 rfl ?_
              have hV := hV.2
              refine jj_iconst (pc2 := 204) hC 1 dX2_place_203 (by decide) rfl ?_
              refine jj_iload_n (pc2 := 205) hC dX2_place_204 rfl 2 rfl rfl ?_
              refine jj_ishl (pc2 := 206) hC dX2_place_205 rfl ?_
              refine jj_iconst (pc2 := 207) hC (-1) dX2_place_206 (by decide) rfl ?_
              refine jj_ixor (pc2 := 208) hC dX2_place_207 rfl ?_
              refine jj_iand (pc2 := 209) hC dX2_place_208 rfl ?_
              refine ct_C_members (pc2 := 210) hC hV.1 dX2_place_209 rfl (fun g20 eg20 => ?_)
              have hV := hV.2 g20 eg20
              refine jj_aload_n (pc2 := 211) hC dX2_place_210 rfl 1 rfl rfl ?_
              refine cg_C_loads (pc2 := 214) hC hi_X2_place_X2 lk_X2_place_13 dX2_place_211 rfl ?_
              refine jj_iload (pc2 := 216) hC dX2_place_214 6 rfl rfl ?_
              refine jj_dup2 (pc2 := 217) hC dX2_place_216 rfl rfl rfl ?_
              refine cl_C_loads (pc2 := 218) hC hV.1 dX2_place_217 rfl ?_
              have hV := hV.2
              refine jj_iload (pc2 := 220) hC dX2_place_218 5 rfl rfl ?_
              refine jj_isub (pc2 := 221) hC dX2_place_220 rfl ?_
              refine ct_C_loads (pc2 := 222) hC hV.1 dX2_place_221 rfl (fun g21 eg21 => ?_)
              have hV := hV.2 g21 eg21
              refine jj_iinc (pc2 := 225) hC (x6 + 1) [(6, .int (x6 + 1)), (7, .long r13), (0, .ref (ad 7)), (1, .int x1), (2, .int x2), (3, .long x3), (5, .int x5)] dX2_place_222 6 rfl rfl (by decide) rfl rfl ?_
              refine jj_goto hC 74 dX2_place_225 (by decide) ?_
              exact jj_sub (lv2 := [(0, .ref (ad 7)), (1, .int x1), (2, .int x2), (3, .long x3), (5, .int x5), (6, .int (x6 + 1))]) [2, 3, 4, 5, 6, 0] rfl (ih (x6 + 1) g21 hV)
            · have hV := hV.2 h17
              refine jj_iload_n (pc2 := 182) hC dX2_place_181 rfl 3 rfl rfl ?_
              refine jj_iconst (pc2 := 183) hC 1 dX2_place_182 (by decide) rfl ?_
              refine jj_iadd (pc2 := 184) hC dX2_place_183 rfl ?_
              refine jj_goto hC 188 dX2_place_184 (by decide) ?_
              refine jj_lload_n (pc2 := 189) hC dX2_place_188 rfl 4 rfl rfl ?_
              refine jj_lload (pc2 := 191) hC dX2_place_189 0 rfl rfl ?_
              refine jj_ladd (pc2 := 192) hC dX2_place_191 rfl ?_
              refine jj_cVV (pc2 := 195) (wd := wc_d Y X cs ad) (g := g16) (rest := []) hC (Y.length + 7) (jx_at (V := wc_W cs ad g16) rfl) rfl rfl (hRec (x1 + 1) (x2 + 1) (x3 + r13) g16 _ hV) (cwV 3 hC.1.2.2.2.2 gX2_place_X2_place rfl rfl rfl (by decide +kernel) ⟨by show d + 1 + 1 ≤ d + 1 + 1; omega, by show 8 + (9 + 11) + (28 * d + 40) ≤ 28 * (d + 1) + 40; omega⟩) rfl (Nat.le_of_ble_eq_true rfl) _ rfl dX2_place_192 ⟨Nat.zero_le _, Nat.zero_le _⟩ rfl (fun g23 hV => ?_)
              refine jj_aload_n (pc2 := 196) hC dX2_place_195 rfl 1 rfl rfl ?_
              refine cg_C_members (pc2 := 199) hC hi_X2_place_X2 lk_X2_place_15 dX2_place_196 rfl ?_
              refine jj_iload (pc2 := 201) hC dX2_place_199 6 rfl rfl ?_
              refine jj_dup2 (pc2 := 202) hC dX2_place_201 rfl rfl rfl ?_
              refine cl_C_members (pc2 := 203) hC hV.1 dX2_place_202 rfl ?_
              have hV := hV.2
              refine jj_iconst (pc2 := 204) hC 1 dX2_place_203 (by decide) rfl ?_
              refine jj_iload_n (pc2 := 205) hC dX2_place_204 rfl 2 rfl rfl ?_
              refine jj_ishl (pc2 := 206) hC dX2_place_205 rfl ?_
              refine jj_iconst (pc2 := 207) hC (-1) dX2_place_206 (by decide) rfl ?_
              refine jj_ixor (pc2 := 208) hC dX2_place_207 rfl ?_
              refine jj_iand (pc2 := 209) hC dX2_place_208 rfl ?_
              refine ct_C_members (pc2 := 210) hC hV.1 dX2_place_209 rfl (fun g24 eg24 => ?_)
              have hV := hV.2 g24 eg24
              refine jj_aload_n (pc2 := 211) hC dX2_place_210 rfl 1 rfl rfl ?_
              refine cg_C_loads (pc2 := 214) hC hi_X2_place_X2 lk_X2_place_13 dX2_place_211 rfl ?_
              refine jj_iload (pc2 := 216) hC dX2_place_214 6 rfl rfl ?_
              refine jj_dup2 (pc2 := 217) hC dX2_place_216 rfl rfl rfl ?_
              refine cl_C_loads (pc2 := 218) hC hV.1 dX2_place_217 rfl ?_
              have hV := hV.2
              refine jj_iload (pc2 := 220) hC dX2_place_218 5 rfl rfl ?_
              refine jj_isub (pc2 := 221) hC dX2_place_220 rfl ?_
              refine ct_C_loads (pc2 := 222) hC hV.1 dX2_place_221 rfl (fun g25 eg25 => ?_)
              have hV := hV.2 g25 eg25
              refine jj_iinc (pc2 := 225) hC (x6 + 1) [(6, .int (x6 + 1)), (7, .long r13), (0, .ref (ad 7)), (1, .int x1), (2, .int x2), (3, .long x3), (5, .int x5)] dX2_place_222 6 rfl rfl (by decide) rfl rfl ?_
              refine jj_goto hC 74 dX2_place_225 (by decide) ?_
              exact jj_sub (lv2 := [(0, .ref (ad 7)), (1, .int x1), (2, .int x2), (3, .long x3), (5, .int x5), (6, .int (x6 + 1))]) [2, 3, 4, 5, 6, 0] rfl (ih (x6 + 1) g25 hV)
set_option maxHeartbeats 4000000 in
set_option maxRecDepth 100000 in
theorem kc_X2_place_B (l : Launch) (D : va_G) (cs : Nat → ClassId) (Y X : va_W) (ad : Nat → Nat) (d : Nat) (REC : Int32 → Int32 → Int64 → cm_M → (cm_M → Prop) → Prop) (hRec : ∀ (a1 : Int32) (a2 : Int32) (a3 : Int64) (g0 : cm_M) (Post : cm_M → Prop), REC a1 a2 a3 g0 Post → JV (wc_d Y X cs ad) D vwCl (jt_tys cs) l yX2_place wsX2_place (rm_X2_place d) 0 0 [.ref (ad 7), .int a1, .int a2, .long a3] g0 Post) (a1 : Int32) (a2 : Int32) (a3 : Int64) (g0 : cm_M) (Post : cm_M → Prop) (hV : vc_X2_place_B REC a1 a2 a3 g0 Post) : JV (wc_d Y X cs ad) D vwCl (jt_tys cs) l yX2_place wsX2_place (rm_X2_place (d + 1)) 0 0 [.ref (ad 7), .int a1, .int a2, .long a3] g0 Post := by
  refine jj_metV (cc := cX2_place) (nL := 9) (ret := none) (by decide) rfl (Nat.le_of_ble_eq_true rfl) [(0, .ref (ad 7)), (1, .int a1), (2, .int a2), (3, .long a3)] rfl ?_
  intro p e s m args below meth c hC hnm
  rw [vc_X2_place_B] at hV
  refine jj_aload_n (pc2 := 1) hC dX2_place_0 rfl 0 rfl rfl ?_
  refine cg_C_found (pc2 := 4) hC hi_X2_place_X2 lk_X2_place_1 dX2_place_1 rfl ?_
  refine jj_if_eq (pc2 := 7) hC 17 dX2_place_4 (by decide) rfl (fun h1 => ?_) (fun h1 => ?_)
  · have hV := hV.1 h1
    refine jj_iload_n (pc2 := 18) hC dX2_place_17 rfl 1 rfl rfl ?_
    refine jj_aload_n (pc2 := 19) hC dX2_place_18 rfl 0 rfl rfl ?_
    refine cg_C_text (pc2 := 22) hC hi_X2_place_X2 lk_X2_place_3 dX2_place_19 rfl ?_
    refine cg_T_modules (pc2 := 25) hC hi_X2_place_X9 lk_X2_place_4 dX2_place_22 rfl ?_
    refine jj_icmp_ge (pc2 := 28) hC 34 dX2_place_25 (by decide) rfl (fun h2 => ?_) (fun h2 => ?_)
    · have hV := hV.1 h2
      refine jj_aload_n (pc2 := 35) hC dX2_place_34 rfl 0 rfl rfl ?_
      refine jj_iconst (pc2 := 36) hC 1 dX2_place_35 (by decide) rfl ?_
      refine cp_C_found (pc2 := 39) hC hi_X2_place_X2 lk_X2_place_1 jj_nb1 dX2_place_36 rfl (fun g3 eg3 => ?_)
      have hV := hV g3 eg3
      refine jj_aload_n (pc2 := 40) hC dX2_place_39 rfl 0 rfl rfl ?_
      refine jj_lload_n (pc2 := 41) hC dX2_place_40 rfl 3 rfl rfl ?_
      refine cp_C_leastPrice (pc2 := 44) hC hi_X2_place_X2 lk_X2_place_2 dX2_place_41 rfl (fun g4 eg4 => ?_)
      have hV := hV g4 eg4
      refine jj_aload_n (pc2 := 45) hC dX2_place_44 rfl 0 rfl rfl ?_
      refine cg_C_rooms (pc2 := 48) hC hi_X2_place_X2 lk_X2_place_5 dX2_place_45 rfl ?_
      refine jj_iconst (pc2 := 49) hC 0 dX2_place_48 (by decide) rfl ?_
      refine jj_aload_n (pc2 := 50) hC dX2_place_49 rfl 0 rfl rfl ?_
      refine cg_C_foundRooms (pc2 := 53) hC hi_X2_place_X2 lk_X2_place_6 dX2_place_50 rfl ?_
      refine jj_iconst (pc2 := 54) hC 0 dX2_place_53 (by decide) rfl ?_
      refine jj_bipush (pc2 := 56) hC 9 dX2_place_54 (by decide) rfl ?_
      refine jj_copyi (pc2 := 59) (wd := wc_d Y X cs ad) (g := g4) (rest := []) hC lk_X2_place_7 lk_X2_place_8 lk_X2_place_9 lk_X2_place_10 (Y.length + 43) (Y.length + 44) 0 (jx_at (V := wc_W cs ad g4) rfl) (jx_at (V := wc_W cs ad g4) rfl) rfl (by decide) (by decide) (by decide) (sN := 0) (dN := 0) (nN := 9) (by decide) (by decide) (by decide) (by decide) (by decide) (by show 1 ≤ d + 1 + 1; omega) (Nat.le_trans (Nat.le_of_ble_eq_true rfl : _ ≤ 40) (by show 40 ≤ 28 * (d + 1) + 40; omega)) (cm_u g4 45 (va_cpy (g4.2.2 44) (g4.2.2 45) 0 0 9)) (jx_set (V := wc_W cs ad g4) (V2 := wc_W cs ad (cm_u g4 45 (va_cpy (g4.2.2 44) (g4.2.2 45) 0 0 9))) (Nat.le_of_ble_eq_true rfl) rfl) dX2_place_56 rfl ?_
      refine jj_mem (fun g5 eg5 => ?_)
      have hV := hV g5 eg5
      exact jj_vret hC dX2_place_59 hV
    · have hV := hV.2 h2
      refine jj_iload_n (pc2 := 29) hC dX2_place_28 rfl 1 rfl rfl ?_
      refine jj_bipush (pc2 := 31) hC 9 dX2_place_29 (by decide) rfl ?_
      refine jj_icmp_lt (pc2 := 34) hC 60 dX2_place_31 (by decide) rfl (fun h6 => ?_) (fun h6 => ?_)
      · have hV := hV.1 h6
        refine jj_aload_n (pc2 := 61) hC dX2_place_60 rfl 0 rfl rfl ?_
        refine cg_C_text (pc2 := 64) hC hi_X2_place_X2 lk_X2_place_3 dX2_place_61 rfl ?_
        refine cg_T_sizes (pc2 := 67) hC hi_X2_place_X9 lk_X2_place_11 dX2_place_64 rfl ?_
        refine jj_iload_n (pc2 := 68) hC dX2_place_67 rfl 1 rfl rfl ?_
        refine cl_T_sizes (pc2 := 69) hC hV.1 dX2_place_68 rfl ?_
        have hV := hV.2
        refine jj_topi (fun y7 ey7 => ?_)
        have hV := hV y7 ey7
        refine jj_istore (pc2 := 71) hC [(5, .int y7), (0, .ref (ad 7)), (1, .int a1), (2, .int a2), (3, .long a3)] dX2_place_69 (by decide) rfl rfl ?_
        refine jj_iconst (pc2 := 72) hC 0 dX2_place_71 (by decide) rfl ?_
        refine jj_istore (pc2 := 74) hC [(6, .int 0), (5, .int y7), (0, .ref (ad 7)), (1, .int a1), (2, .int a2), (3, .long a3)] dX2_place_72 (by decide) rfl rfl ?_
        obtain ⟨n26, hV⟩ := hV
        refine jj_sub (lv2 := [(0, .ref (ad 7)), (1, .int a1), (2, .int a2), (3, .long a3), (5, .int y7), (6, .int 0)]) [2, 3, 4, 5, 1, 0] rfl (ac_X2_place_74 hRec hC a1 a2 a3 y7 Post n26 0 g0 hV)
      · have hV := hV.2 h6
        refine jj_aload_n (pc2 := 35) hC dX2_place_34 rfl 0 rfl rfl ?_
        refine jj_iconst (pc2 := 36) hC 1 dX2_place_35 (by decide) rfl ?_
        refine cp_C_found (pc2 := 39) hC hi_X2_place_X2 lk_X2_place_1 jj_nb1 dX2_place_36 rfl (fun g27 eg27 => ?_)
        have hV := hV g27 eg27
        refine jj_aload_n (pc2 := 40) hC dX2_place_39 rfl 0 rfl rfl ?_
        refine jj_lload_n (pc2 := 41) hC dX2_place_40 rfl 3 rfl rfl ?_
        refine cp_C_leastPrice (pc2 := 44) hC hi_X2_place_X2 lk_X2_place_2 dX2_place_41 rfl (fun g28 eg28 => ?_)
        have hV := hV g28 eg28
        refine jj_aload_n (pc2 := 45) hC dX2_place_44 rfl 0 rfl rfl ?_
        refine cg_C_rooms (pc2 := 48) hC hi_X2_place_X2 lk_X2_place_5 dX2_place_45 rfl ?_
        refine jj_iconst (pc2 := 49) hC 0 dX2_place_48 (by decide) rfl ?_
        refine jj_aload_n (pc2 := 50) hC dX2_place_49 rfl 0 rfl rfl ?_
        refine cg_C_foundRooms (pc2 := 53) hC hi_X2_place_X2 lk_X2_place_6 dX2_place_50 rfl ?_
        refine jj_iconst (pc2 := 54) hC 0 dX2_place_53 (by decide) rfl ?_
        refine jj_bipush (pc2 := 56) hC 9 dX2_place_54 (by decide) rfl ?_
        refine jj_copyi (pc2 := 59) (wd := wc_d Y X cs ad) (g := g28) (rest := []) hC lk_X2_place_7 lk_X2_place_8 lk_X2_place_9 lk_X2_place_10 (Y.length + 43) (Y.length + 44) 0 (jx_at (V := wc_W cs ad g28) rfl) (jx_at (V := wc_W cs ad g28) rfl) rfl (by decide) (by decide) (by decide) (sN := 0) (dN := 0) (nN := 9) (by decide) (by decide) (by decide) (by decide) (by decide) (by show 1 ≤ d + 1 + 1; omega) (Nat.le_trans (Nat.le_of_ble_eq_true rfl : _ ≤ 40) (by show 40 ≤ 28 * (d + 1) + 40; omega)) (cm_u g28 45 (va_cpy (g28.2.2 44) (g28.2.2 45) 0 0 9)) (jx_set (V := wc_W cs ad g28) (V2 := wc_W cs ad (cm_u g28 45 (va_cpy (g28.2.2 44) (g28.2.2 45) 0 0 9))) (Nat.le_of_ble_eq_true rfl) rfl) dX2_place_56 rfl ?_
        refine jj_mem (fun g29 eg29 => ?_)
        have hV := hV g29 eg29
        exact jj_vret hC dX2_place_59 hV
  · have hV := hV.2 h1
    refine jj_lload_n (pc2 := 8) hC dX2_place_7 rfl 3 rfl rfl ?_
    refine jj_aload_n (pc2 := 9) hC dX2_place_8 rfl 0 rfl rfl ?_
    refine cg_C_leastPrice (pc2 := 12) hC hi_X2_place_X2 lk_X2_place_2 dX2_place_9 rfl ?_
    refine jj_lcmp (pc2 := 13) hC dX2_place_12 rfl ?_
    refine jj_if_lt (pc2 := 16) hC 17 dX2_place_13 (by decide) rfl (fun h30 => ?_) (fun h30 => ?_)
    · have hV := hV.1 h30
      refine jj_iload_n (pc2 := 18) hC dX2_place_17 rfl 1 rfl rfl ?_
      refine jj_aload_n (pc2 := 19) hC dX2_place_18 rfl 0 rfl rfl ?_
      refine cg_C_text (pc2 := 22) hC hi_X2_place_X2 lk_X2_place_3 dX2_place_19 rfl ?_
      refine cg_T_modules (pc2 := 25) hC hi_X2_place_X9 lk_X2_place_4 dX2_place_22 rfl ?_
      refine jj_icmp_ge (pc2 := 28) hC 34 dX2_place_25 (by decide) rfl (fun h31 => ?_) (fun h31 => ?_)
      · have hV := hV.1 h31
        refine jj_aload_n (pc2 := 35) hC dX2_place_34 rfl 0 rfl rfl ?_
        refine jj_iconst (pc2 := 36) hC 1 dX2_place_35 (by decide) rfl ?_
        refine cp_C_found (pc2 := 39) hC hi_X2_place_X2 lk_X2_place_1 jj_nb1 dX2_place_36 rfl (fun g32 eg32 => ?_)
        have hV := hV g32 eg32
        refine jj_aload_n (pc2 := 40) hC dX2_place_39 rfl 0 rfl rfl ?_
        refine jj_lload_n (pc2 := 41) hC dX2_place_40 rfl 3 rfl rfl ?_
        refine cp_C_leastPrice (pc2 := 44) hC hi_X2_place_X2 lk_X2_place_2 dX2_place_41 rfl (fun g33 eg33 => ?_)
        have hV := hV g33 eg33
        refine jj_aload_n (pc2 := 45) hC dX2_place_44 rfl 0 rfl rfl ?_
        refine cg_C_rooms (pc2 := 48) hC hi_X2_place_X2 lk_X2_place_5 dX2_place_45 rfl ?_
        refine jj_iconst (pc2 := 49) hC 0 dX2_place_48 (by decide) rfl ?_
        refine jj_aload_n (pc2 := 50) hC dX2_place_49 rfl 0 rfl rfl ?_
        refine cg_C_foundRooms (pc2 := 53) hC hi_X2_place_X2 lk_X2_place_6 dX2_place_50 rfl ?_
        refine jj_iconst (pc2 := 54) hC 0 dX2_place_53 (by decide) rfl ?_
        refine jj_bipush (pc2 := 56) hC 9 dX2_place_54 (by decide) rfl ?_
        refine jj_copyi (pc2 := 59) (wd := wc_d Y X cs ad) (g := g33) (rest := []) hC lk_X2_place_7 lk_X2_place_8 lk_X2_place_9 lk_X2_place_10 (Y.length + 43) (Y.length + 44) 0 (jx_at (V := wc_W cs ad g33) rfl) (jx_at (V := wc_W cs ad g33) rfl) rfl (by decide) (by decide) (by decide) (sN := 0) (dN := 0) (nN := 9) (by decide) (by decide) (by decide) (by decide) (by decide) (by show 1 ≤ d + 1 + 1; omega) (Nat.le_trans (Nat.le_of_ble_eq_true rfl : _ ≤ 40) (by show 40 ≤ 28 * (d + 1) + 40; omega)) (cm_u g33 45 (va_cpy (g33.2.2 44) (g33.2.2 45) 0 0 9)) (jx_set (V := wc_W cs ad g33) (V2 := wc_W cs ad (cm_u g33 45 (va_cpy (g33.2.2 44) (g33.2.2 45) 0 0 9))) (Nat.le_of_ble_eq_true rfl) rfl) dX2_place_56 rfl ?_
        refine jj_mem (fun g34 eg34 => ?_)
        have hV := hV g34 eg34
        exact jj_vret hC dX2_place_59 hV
      · have hV := hV.2 h31
        refine jj_iload_n (pc2 := 29) hC dX2_place_28 rfl 1 rfl rfl ?_
        refine jj_bipush (pc2 := 31) hC 9 dX2_place_29 (by decide) rfl ?_
        refine jj_icmp_lt (pc2 := 34) hC 60 dX2_place_31 (by decide) rfl (fun h35 => ?_) (fun h35 => ?_)
        · have hV := hV.1 h35
          refine jj_aload_n (pc2 := 61) hC dX2_place_60 rfl 0 rfl rfl ?_
          refine cg_C_text (pc2 := 64) hC hi_X2_place_X2 lk_X2_place_3 dX2_place_61 rfl ?_
          refine cg_T_sizes (pc2 := 67) hC hi_X2_place_X9 lk_X2_place_11 dX2_place_64 rfl ?_
          refine jj_iload_n (pc2 := 68) hC dX2_place_67 rfl 1 rfl rfl ?_
          refine cl_T_sizes (pc2 := 69) hC hV.1 dX2_place_68 rfl ?_
          have hV := hV.2
          refine jj_topi (fun y36 ey36 => ?_)
          have hV := hV y36 ey36
          refine jj_istore (pc2 := 71) hC [(5, .int y36), (0, .ref (ad 7)), (1, .int a1), (2, .int a2), (3, .long a3)] dX2_place_69 (by decide) rfl rfl ?_
          refine jj_iconst (pc2 := 72) hC 0 dX2_place_71 (by decide) rfl ?_
          refine jj_istore (pc2 := 74) hC [(6, .int 0), (5, .int y36), (0, .ref (ad 7)), (1, .int a1), (2, .int a2), (3, .long a3)] dX2_place_72 (by decide) rfl rfl ?_
          obtain ⟨n37, hV⟩ := hV
          refine jj_sub (lv2 := [(0, .ref (ad 7)), (1, .int a1), (2, .int a2), (3, .long a3), (5, .int y36), (6, .int 0)]) [2, 3, 4, 5, 1, 0] rfl (ac_X2_place_74 hRec hC a1 a2 a3 y36 Post n37 0 g0 hV)
        · have hV := hV.2 h35
          refine jj_aload_n (pc2 := 35) hC dX2_place_34 rfl 0 rfl rfl ?_
          refine jj_iconst (pc2 := 36) hC 1 dX2_place_35 (by decide) rfl ?_
          refine cp_C_found (pc2 := 39) hC hi_X2_place_X2 lk_X2_place_1 jj_nb1 dX2_place_36 rfl (fun g38 eg38 => ?_)
          have hV := hV g38 eg38
          refine jj_aload_n (pc2 := 40) hC dX2_place_39 rfl 0 rfl rfl ?_
          refine jj_lload_n (pc2 := 41) hC dX2_place_40 rfl 3 rfl rfl ?_
          refine cp_C_leastPrice (pc2 := 44) hC hi_X2_place_X2 lk_X2_place_2 dX2_place_41 rfl (fun g39 eg39 => ?_)
          have hV := hV g39 eg39
          refine jj_aload_n (pc2 := 45) hC dX2_place_44 rfl 0 rfl rfl ?_
          refine cg_C_rooms (pc2 := 48) hC hi_X2_place_X2 lk_X2_place_5 dX2_place_45 rfl ?_
          refine jj_iconst (pc2 := 49) hC 0 dX2_place_48 (by decide) rfl ?_
          refine jj_aload_n (pc2 := 50) hC dX2_place_49 rfl 0 rfl rfl ?_
          refine cg_C_foundRooms (pc2 := 53) hC hi_X2_place_X2 lk_X2_place_6 dX2_place_50 rfl ?_
          refine jj_iconst (pc2 := 54) hC 0 dX2_place_53 (by decide) rfl ?_
          refine jj_bipush (pc2 := 56) hC 9 dX2_place_54 (by decide) rfl ?_
          refine jj_copyi (pc2 := 59) (wd := wc_d Y X cs ad) (g := g39) (rest := []) hC lk_X2_place_7 lk_X2_place_8 lk_X2_place_9 lk_X2_place_10 (Y.length + 43) (Y.length + 44) 0 (jx_at (V := wc_W cs ad g39) rfl) (jx_at (V := wc_W cs ad g39) rfl) rfl (by decide) (by decide) (by decide) (sN := 0) (dN := 0) (nN := 9) (by decide) (by decide) (by decide) (by decide) (by decide) (by show 1 ≤ d + 1 + 1; omega) (Nat.le_trans (Nat.le_of_ble_eq_true rfl : _ ≤ 40) (by show 40 ≤ 28 * (d + 1) + 40; omega)) (cm_u g39 45 (va_cpy (g39.2.2 44) (g39.2.2 45) 0 0 9)) (jx_set (V := wc_W cs ad g39) (V2 := wc_W cs ad (cm_u g39 45 (va_cpy (g39.2.2 44) (g39.2.2 45) 0 0 9))) (Nat.le_of_ble_eq_true rfl) rfl) dX2_place_56 rfl ?_
          refine jj_mem (fun g40 eg40 => ?_)
          have hV := hV g40 eg40
          exact jj_vret hC dX2_place_59 hV
    · have hV := hV.2 h30
      exact jj_vret hC dX2_place_16 hV
theorem kc_X2_place (l : Launch) (D : va_G) (cs : Nat → ClassId) (Y X : va_W) (ad : Nat → Nat) (d : Nat) : ∀ (a1 : Int32) (a2 : Int32) (a3 : Int64) (g0 : cm_M) (Post : cm_M → Prop), vc_X2_place d a1 a2 a3 g0 Post → JV (wc_d Y X cs ad) D vwCl (jt_tys cs) l yX2_place wsX2_place (rm_X2_place d) 0 0 [.ref (ad 7), .int a1, .int a2, .long a3] g0 Post := by
  induction d with
  | zero => intro a1 a2 a3 g0 Post hV; exact hV.elim
  | succ d ih => intro a1 a2 a3 g0 Post hV; exact kc_X2_place_B l D cs Y X ad d _ ih a1 a2 a3 g0 Post hV
