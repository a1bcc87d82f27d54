theorem hi_X7_roomsOf_X9 : ∀ w ∈ u_ws RX9 TX9 11, w ∈ wsX7_roomsOf := fun _ h => List.mem_cons_of_mem _ (List.mem_append_right _ h)
theorem lk_X7_roomsOf_2 : Cond.fieldLink RX7 41 "PartedHouse$Text" "modules" "I" ∈ wsX7_roomsOf := List.mem_of_getElem? (i := 2) rfl
theorem hi_X7_roomsOf_X7 : ∀ w ∈ u_ws RX7 TX7 5, w ∈ wsX7_roomsOf := fun _ h => List.mem_cons_of_mem _ (List.mem_append_left _ (List.mem_append_right _ h))
theorem lk_X7_roomsOf_1 : Cond.fieldLink RX7 15 "PartedHouse$Prices" "text" "LPartedHouse$Text;" ∈ wsX7_roomsOf := List.mem_of_getElem? (i := 1) rfl
abbrev rm_X7_roomsOf : Room := { frames := 1, cells := 0, slots := 0, locals := 20 }
def vc_X7_roomsOf_5 (x1 : Int32) (g0 : cm_M) (K41 : Int32 → Prop) (Post : Int32 → Prop) : Nat → Int32 → Int32 → Prop
  | 0, _, _ => False
  | f + 1, x3, x4 => (((g0.2.2 12 0) ≤ x4) → (K41 x3)) ∧ ((¬ (g0.2.2 12 0) ≤ x4) → (((((x1 >>> (x4 &&& 31)) &&& 1) = 0) → (vc_X7_roomsOf_5 x1 g0 K41 Post f x3 (x4 + 1))) ∧ ((¬ ((x1 >>> (x4 &&& 31)) &&& 1) = 0) → ((vp_in x4 10) ∧ (∀ y3 : Int32, y3 = x3 ||| ((1 : Int32) <<< ((g0.2.2 27 x4.toNatClampNeg) &&& 31)) → (vc_X7_roomsOf_5 x1 g0 K41 Post f y3 (x4 + 1)))))))
def vc_X7_roomsOf (a1 : Int32) (g0 : cm_M) (Post : Int32 → Prop) : Prop := ∃ n6 : Nat, vc_X7_roomsOf_5 a1 g0 (fun (y4 : Int32) => vc_J6_bitCount_0f7a4 y4 g0 (fun (r5 : Int32) => Post r5)) Post n6 0 0
set_option maxHeartbeats 4000000 in
set_option maxRecDepth 100000 in
theorem ac_X7_roomsOf_5 {p : Program} {l : Launch} {e : Env} {s : State} {m : MethodId} {args : Array Value} {below : List Frame} {meth : Method} {c : Code} {D : va_G} {cs : Nat → ClassId} {Y X : va_W} {ad : Nat → Nat} {g0 : cm_M} (hC : JC p s m args meth c D vwCl (va_A (wc_d Y X cs ad g0) s.heap.size) 5 cX7_roomsOf (some .int) wsX7_roomsOf RX7 (jt_tys cs)) (x1 : Int32) (Post : Int32 → Prop) (K41 : Int32 → Prop) (hK41 : ∀ (z3 : Int32) , K41 z3 → JJ (wc_d Y X cs ad) p l e rm_X7_roomsOf s m args below meth c D vwCl (va_A (wc_d Y X cs ad g0) s.heap.size) 5 0 0 (MQ below (jj_QI (wc_d Y X cs ad) D vwCl (jt_tys cs) g0 s.heap.size (fun r g2 => Post r ∧ g2 = g0)) args s 0 0 (va_A (wc_d Y X cs ad g0) s.heap.size)) 41 [(3, .int z3)] [] g0) : ∀ (f : Nat) (x3 : Int32) (x4 : Int32), vc_X7_roomsOf_5 x1 g0 K41 Post f x3 x4 → JJ (wc_d Y X cs ad) p l e rm_X7_roomsOf s m args below meth c D vwCl (va_A (wc_d Y X cs ad g0) s.heap.size) 5 0 0 (MQ below (jj_QI (wc_d Y X cs ad) D vwCl (jt_tys cs) g0 s.heap.size (fun r g2 => Post r ∧ g2 = g0)) args s 0 0 (va_A (wc_d Y X cs ad g0) s.heap.size)) 5 [(0, .ref (ad 6)), (1, .int x1), (2, .ref (ad 32)), (3, .int x3), (4, .int x4)] [] g0 := by
  intro f
  induction f with
  | zero => intro x3 x4 hV; exact hV.elim
  | succ f ih =>
    intro x3 x4 hV
    rw [vc_X7_roomsOf_5] at hV
    refine jj_iload (pc2 := 7) hC dX7_roomsOf_5 4 rfl rfl ?_
    refine jj_aload_n (pc2 := 8) hC dX7_roomsOf_7 rfl 0 rfl rfl ?_
    refine cg_P_text (pc2 := 11) hC hi_X7_roomsOf_X7 lk_X7_roomsOf_1 dX7_roomsOf_8 rfl ?_
    refine cg_T_modules (pc2 := 14) hC hi_X7_roomsOf_X9 lk_X7_roomsOf_2 dX7_roomsOf_11 rfl ?_
    refine jj_icmp_ge (pc2 := 17) hC 41 dX7_roomsOf_14 (by decide) rfl (fun h1 => ?_) (fun h1 => ?_)
    · have hV := hV.1 h1
      exact jj_sub (lv2 := [(3, .int x3)]) [3] rfl (hK41 x3 hV)
    · have hV := hV.2 h1
      refine jj_iload_n (pc2 := 18) hC dX7_roomsOf_17 rfl 1 rfl rfl ?_
      refine jj_iload (pc2 := 20) hC dX7_roomsOf_18 4 rfl rfl ?_
      refine jj_ishr (pc2 := 21) hC dX7_roomsOf_20 rfl ?_
      refine jj_iconst (pc2 := 22) hC 1 dX7_roomsOf_21 (by decide) rfl ?_
      refine jj_iand (pc2 := 23) hC dX7_roomsOf_22 rfl ?_
      refine jj_if_eq (pc2 := 26) hC 35 dX7_roomsOf_23 (by decide) rfl (fun h2 => ?_) (fun h2 => ?_)
      · have hV := hV.1 h2
        refine jj_iinc (pc2 := 38) hC (x4 + 1) [(4, .int (x4 + 1)), (0, .ref (ad 6)), (1, .int x1), (2, .ref (ad 32)), (3, .int x3)] dX7_roomsOf_35 4 rfl rfl (by decide) rfl rfl ?_
        refine jj_goto hC 5 dX7_roomsOf_38 (by decide) ?_
        exact jj_sub (lv2 := [(0, .ref (ad 6)), (1, .int x1), (2, .ref (ad 32)), (3, .int x3), (4, .int (x4 + 1))]) [1, 2, 3, 4, 0] rfl (ih x3 (x4 + 1) hV)
      · have hV := hV.2 h2
        refine jj_iload_n (pc2 := 27) hC dX7_roomsOf_26 rfl 3 rfl rfl ?_
        refine jj_iconst (pc2 := 28) hC 1 dX7_roomsOf_27 (by decide) rfl ?_
        refine jj_aload_n (pc2 := 29) hC dX7_roomsOf_28 rfl 2 rfl rfl ?_
        refine jj_iload (pc2 := 31) hC dX7_roomsOf_29 4 rfl rfl ?_
        refine cl_H_rooms (pc2 := 32) hC hV.1 dX7_roomsOf_31 rfl ?_
        have hV := hV.2
        refine jj_ishl (pc2 := 33) hC dX7_roomsOf_32 rfl ?_
        refine jj_ior (pc2 := 34) hC dX7_roomsOf_33 rfl ?_
        refine jj_topi (fun y3 ey3 => ?_)
        have hV := hV y3 ey3
        refine jj_istore_n (pc2 := 35) hC [(3, .int y3), (0, .ref (ad 6)), (1, .int x1), (2, .ref (ad 32)), (4, .int x4)] dX7_roomsOf_34 rfl (by decide) rfl rfl ?_
        refine jj_iinc (pc2 := 38) hC (x4 + 1) [(4, .int (x4 + 1)), (3, .int y3), (0, .ref (ad 6)), (1, .int x1), (2, .ref (ad 32))] dX7_roomsOf_35 4 rfl rfl (by decide) rfl rfl ?_
        refine jj_goto hC 5 dX7_roomsOf_38 (by decide) ?_
        exact jj_sub (lv2 := [(0, .ref (ad 6)), (1, .int x1), (2, .ref (ad 32)), (3, .int y3), (4, .int (x4 + 1))]) [2, 3, 4, 1, 0] rfl (ih y3 (x4 + 1) hV)
set_option maxHeartbeats 4000000 in
set_option maxRecDepth 100000 in
theorem kc_X7_roomsOf (l : Launch) (D : va_G) (cs : Nat → ClassId) (Y X : va_W) (ad : Nat → Nat) (a1 : Int32) (g0 : cm_M) (Post : Int32 → Prop) (hV : vc_X7_roomsOf a1 g0 Post) : JI (wc_d Y X cs ad) D vwCl (jt_tys cs) l yX7_roomsOf wsX7_roomsOf rm_X7_roomsOf 0 0 [.ref (ad 6), .int a1, .ref (ad 32)] g0 (fun r g2 => Post r ∧ g2 = g0) := by
  refine jj_metI (cc := cX7_roomsOf) (nL := 5) (ret := (some .int)) (by decide) rfl (Nat.le_of_ble_eq_true rfl) [(0, .ref (ad 6)), (1, .int a1), (2, .ref (ad 32))] rfl ?_
  intro p e s m args below meth c hC hnm
  rw [vc_X7_roomsOf] at hV
  refine jj_iconst (pc2 := 1) hC 0 dX7_roomsOf_0 (by decide) rfl ?_
  refine jj_istore_n (pc2 := 2) hC [(3, .int 0), (0, .ref (ad 6)), (1, .int a1), (2, .ref (ad 32))] dX7_roomsOf_1 rfl (by decide) rfl rfl ?_
  refine jj_iconst (pc2 := 3) hC 0 dX7_roomsOf_2 (by decide) rfl ?_
  refine jj_istore (pc2 := 5) hC [(4, .int 0), (3, .int 0), (0, .ref (ad 6)), (1, .int a1), (2, .ref (ad 32))] dX7_roomsOf_3 (by decide) rfl rfl ?_
  obtain ⟨n6, hV⟩ := hV
  refine jj_sub (lv2 := [(0, .ref (ad 6)), (1, .int a1), (2, .ref (ad 32)), (3, .int 0), (4, .int 0)]) [2, 3, 4, 1, 0] rfl (ac_X7_roomsOf_5 hC a1 Post _ (fun y4 hV => ?_) n6 0 0 hV)
  refine jj_iload_n (pc2 := 42) hC dX7_roomsOf_41 rfl 0 rfl rfl ?_
  refine jj_cSIp (pc2 := 45) (wd := wc_d Y X cs ad) (g := g0) (rest := []) hC (kc_J6_bitCount_0f7a4 l D cs Y X ad y4 g0 _ hV) (va_cwS 1 hC.1.2.2.2.2 gX7_roomsOf_J6_bitCount_0f7a4 rfl rfl rfl (by decide +kernel) ⟨by decide, by decide⟩) rfl (Nat.le_of_ble_eq_true rfl) _ rfl dX7_roomsOf_42 ⟨Nat.zero_le _, Nat.zero_le _⟩ rfl (fun r5 hV => ?_)
  exact jj_iret hC dX7_roomsOf_45 ⟨hV, rfl⟩
theorem hi_X7_of_X7 : ∀ w ∈ u_ws RX7 TX7 5, w ∈ wsX7_of := fun _ h => List.mem_cons_of_mem _ (List.mem_append_left _ (List.mem_append_left _ (List.mem_append_right _ h)))
theorem lk_X7_of_3 : Cond.fieldLink RX7 9 "PartedHouse$Prices" "pairs" "[J" ∈ wsX7_of := List.mem_of_getElem? (i := 3) rfl
theorem hi_X7_of_X9 : ∀ w ∈ u_ws RX9 TX9 11, w ∈ wsX7_of := fun _ h => List.mem_cons_of_mem _ (List.mem_append_left _ (List.mem_append_right _ h))
theorem lk_X7_of_2 : Cond.fieldLink RX7 41 "PartedHouse$Text" "modules" "I" ∈ wsX7_of := List.mem_of_getElem? (i := 2) rfl
theorem lk_X7_of_1 : Cond.fieldLink RX7 15 "PartedHouse$Prices" "text" "LPartedHouse$Text;" ∈ wsX7_of := List.mem_of_getElem? (i := 1) rfl
theorem lk_X7_of_12 : Cond.fieldLink RX7 31 "PartedHouse$Prices" "wholeWeight" "J" ∈ wsX7_of := List.mem_of_getElem? (i := 12) rfl
theorem hi_X7_of_X3 : ∀ w ∈ u_ws RX3 TX3 3, w ∈ wsX7_of := fun _ h => List.mem_cons_of_mem _ (List.mem_append_right _ h)
theorem lk_X7_of_11 : Cond.fieldLink RX7 79 "PartedHouse$HomeSets" "acts" "[I" ∈ wsX7_of := List.mem_of_getElem? (i := 11) rfl
theorem lk_X7_of_4 : Cond.fieldLink RX7 30 "PartedHouse$Prices" "homeSets" "LPartedHouse$HomeSets;" ∈ wsX7_of := List.mem_of_getElem? (i := 4) rfl
theorem lk_X7_of_7 : Cond.methodLink RX7 73 Lib.Math.max.name ∈ wsX7_of := List.mem_of_getElem? (i := 7) rfl
theorem lk_X7_of_8 : Cond.static Lib.Math.max.name ∈ wsX7_of := List.mem_of_getElem? (i := 8) rfl
theorem lk_X7_of_9 : Cond.initialized "java/lang/Math" ∈ wsX7_of := List.mem_of_getElem? (i := 9) rfl
theorem lk_X7_of_10 : Cond.code Lib.Math.max.name Lib.Math.max.code 2 (some .int) ∈ wsX7_of := List.mem_of_getElem? (i := 10) rfl
theorem lk_X7_of_6 : Cond.fieldLink RX7 66 "PartedHouse$HomeSets" "masks" "[I" ∈ wsX7_of := List.mem_of_getElem? (i := 6) rfl
theorem lk_X7_of_5 : Cond.fieldLink RX7 61 "PartedHouse$HomeSets" "size" "I" ∈ wsX7_of := List.mem_of_getElem? (i := 5) rfl
abbrev rm_X7_of : Room := { frames := 2, cells := 0, slots := 0, locals := 44 }
def vc_X7_of_20 (x4 : Int32) (g0 : cm_M) (K60 : Int64 → Prop) (Post : Int64 → Prop) : Nat → Int64 → Int32 → Prop
  | 0, _, _ => False
  | f + 1, x2, x5 => ((x4 ≤ x5) → (K60 x2)) ∧ ((¬ x4 ≤ x5) → ((vp_in x4 10) ∧ ((vp_in x5 10) ∧ ((((g0.2.2 27 x4.toNatClampNeg) = (g0.2.2 27 x5.toNatClampNeg)) → (vc_X7_of_20 x4 g0 K60 Post f x2 (x5 + 1))) ∧ ((¬ (g0.2.2 27 x4.toNatClampNeg) = (g0.2.2 27 x5.toNatClampNeg)) → ((vp_in ((x4 * 10) + x5) 100) ∧ (∀ y4 : Int64, y4 = x2 + (g0.2.1 0 ((x4 * 10) + x5).toNatClampNeg) → (vc_X7_of_20 x4 g0 K60 Post f y4 (x5 + 1)))))))))
def vc_X7_of_5 (g0 : cm_M) (K66 : Int64 → Prop) (Post : Int64 → Prop) : Nat → Int64 → Int32 → Prop
  | 0, _, _ => False
  | f + 1, x2, x4 => (((g0.2.2 12 0) ≤ x4) → (K66 x2)) ∧ ((¬ (g0.2.2 12 0) ≤ x4) → (∃ n6 : Nat, vc_X7_of_20 x4 g0 (fun (y5 : Int64) => vc_X7_of_5 g0 K66 Post f y5 (x4 + 1)) Post n6 x2 0))
def vc_X7_of_69 (g0 : cm_M) (Post : Int64 → Prop) : Nat → Int64 → Int32 → Prop
  | 0, _, _ => False
  | f + 1, x2, x4 => (((g0.2.2 36 0) ≤ x4) → (Post x2)) ∧ ((¬ (g0.2.2 36 0) ≤ x4) → ((vp_in x4 (g0.1.2.1 0)) ∧ (vc_X7_roomsOf (g0.2.2 34 x4.toNatClampNeg) g0 (fun (r9 : Int32) => ∀ y10 : Int32, y10 = (if (0 : Int32) < (r9 - 1) then (r9 - 1) else (0 : Int32)) → ((vp_in x4 (g0.1.2.1 1)) ∧ (∀ y11 : Int64, y11 = x2 + ((((g0.2.2 35 x4.toNatClampNeg).toInt64) * (g0.2.1 1 0)) * (y10.toInt64)) → (vc_X7_of_69 g0 Post f y11 (x4 + 1))))))))
def vc_X7_of (g0 : cm_M) (Post : Int64 → Prop) : Prop := ∃ n13 : Nat, vc_X7_of_5 g0 (fun (y7 : Int64) => ∃ n12 : Nat, vc_X7_of_69 g0 Post n12 y7 0) Post n13 0 1
set_option maxHeartbeats 4000000 in
set_option maxRecDepth 100000 in
theorem ac_X7_of_20 {p : Program} {l : Launch} {e : Env} {s : State} {m : MethodId} {args : Array Value} {below : List Frame} {meth : Method} {c : Code} {D : va_G} {cs : Nat → ClassId} {Y X : va_W} {ad : Nat → Nat} {g0 : cm_M} (hC : JC p s m args meth c D vwCl (va_A (wc_d Y X cs ad g0) s.heap.size) 6 cX7_of (some .long) wsX7_of RX7 (jt_tys cs)) (x4 : Int32) (Post : Int64 → Prop) (K60 : Int64 → Prop) (hK60 : ∀ (z2 : Int64) , K60 z2 → JJ (wc_d Y X cs ad) p l e rm_X7_of s m args below meth c D vwCl (va_A (wc_d Y X cs ad g0) s.heap.size) 6 0 0 (MQ below (jj_QL (wc_d Y X cs ad) D vwCl (jt_tys cs) g0 s.heap.size (fun r g2 => Post r ∧ g2 = g0)) args s 0 0 (va_A (wc_d Y X cs ad g0) s.heap.size)) 60 [(0, .ref (ad 6)), (1, .ref (ad 32)), (2, .long z2), (4, .int x4)] [] g0) : ∀ (f : Nat) (x2 : Int64) (x5 : Int32), vc_X7_of_20 x4 g0 K60 Post f x2 x5 → JJ (wc_d Y X cs ad) p l e rm_X7_of s m args below meth c D vwCl (va_A (wc_d Y X cs ad g0) s.heap.size) 6 0 0 (MQ below (jj_QL (wc_d Y X cs ad) D vwCl (jt_tys cs) g0 s.heap.size (fun r g2 => Post r ∧ g2 = g0)) args s 0 0 (va_A (wc_d Y X cs ad g0) s.heap.size)) 20 [(0, .ref (ad 6)), (1, .ref (ad 32)), (2, .long x2), (4, .int x4), (5, .int x5)] [] g0 := by
  intro f
  induction f with
  | zero => intro x2 x5 hV; exact hV.elim
  | succ f ih =>
    intro x2 x5 hV
    rw [vc_X7_of_20] at hV
    refine jj_iload (pc2 := 22) hC dX7_of_20 4 rfl rfl ?_
    refine jj_iload (pc2 := 24) hC dX7_of_22 3 rfl rfl ?_
    refine jj_icmp_ge (pc2 := 27) hC 60 dX7_of_24 (by decide) rfl (fun h2 => ?_) (fun h2 => ?_)
    · have hV := hV.1 h2
      exact jj_sub (lv2 := [(0, .ref (ad 6)), (1, .ref (ad 32)), (2, .long x2), (4, .int x4)]) [0, 1, 2, 3] rfl (hK60 x2 hV)
    · have hV := hV.2 h2
      refine jj_aload_n (pc2 := 28) hC dX7_of_27 rfl 1 rfl rfl ?_
      refine jj_iload (pc2 := 30) hC dX7_of_28 3 rfl rfl ?_
      refine cl_H_rooms (pc2 := 31) hC hV.1 dX7_of_30 rfl ?_
      have hV := hV.2
      refine jj_aload_n (pc2 := 32) hC dX7_of_31 rfl 1 rfl rfl ?_
      refine jj_iload (pc2 := 34) hC dX7_of_32 4 rfl rfl ?_
      refine cl_H_rooms (pc2 := 35) hC hV.1 dX7_of_34 rfl ?_
      have hV := hV.2
      refine jj_icmp_eq (pc2 := 38) hC 54 dX7_of_35 (by decide) rfl (fun h3 => ?_) (fun h3 => ?_)
      · have hV := hV.1 h3
        refine jj_iinc (pc2 := 57) hC (x5 + 1) [(5, .int (x5 + 1)), (0, .ref (ad 6)), (1, .ref (ad 32)), (2, .long x2), (4, .int x4)] dX7_of_54 4 rfl rfl (by decide) rfl rfl ?_
        refine jj_goto hC 20 dX7_of_57 (by decide) ?_
        exact jj_sub (lv2 := [(0, .ref (ad 6)), (1, .ref (ad 32)), (2, .long x2), (4, .int x4), (5, .int (x5 + 1))]) [1, 2, 3, 4, 0] rfl (ih x2 (x5 + 1) hV)
      · have hV := hV.2 h3
        refine jj_lload_n (pc2 := 39) hC dX7_of_38 rfl 2 rfl rfl ?_
        refine jj_aload_n (pc2 := 40) hC dX7_of_39 rfl 0 rfl rfl ?_
        refine cg_P_pairs (pc2 := 43) hC hi_X7_of_X7 lk_X7_of_3 dX7_of_40 rfl ?_
        refine jj_iload (pc2 := 45) hC dX7_of_43 3 rfl rfl ?_
        refine jj_bipush (pc2 := 47) hC 10 dX7_of_45 (by decide) rfl ?_
        refine jj_imul (pc2 := 48) hC dX7_of_47 rfl ?_
        refine jj_iload (pc2 := 50) hC dX7_of_48 4 rfl rfl ?_
        refine jj_iadd (pc2 := 51) hC dX7_of_50 rfl ?_
        refine cl_P_pairs (pc2 := 52) hC hV.1 dX7_of_51 rfl ?_
        have hV := hV.2
        refine jj_ladd (pc2 := 53) hC dX7_of_52 rfl ?_
        refine jj_topl (fun y4 ey4 => ?_)
        have hV := hV y4 ey4
        refine jj_lstore_n (pc2 := 54) hC [(2, .long y4), (0, .ref (ad 6)), (1, .ref (ad 32)), (4, .int x4), (5, .int x5)] dX7_of_53 rfl (by decide) rfl rfl ?_
        refine jj_iinc (pc2 := 57) hC (x5 + 1) [(5, .int (x5 + 1)), (2, .long y4), (0, .ref (ad 6)), (1, .ref (ad 32)), (4, .int x4)] dX7_of_54 4 rfl rfl (by decide) rfl rfl ?_
        refine jj_goto hC 20 dX7_of_57 (by decide) ?_
        exact jj_sub (lv2 := [(0, .ref (ad 6)), (1, .ref (ad 32)), (2, .long y4), (4, .int x4), (5, .int (x5 + 1))]) [2, 3, 1, 4, 0] rfl (ih y4 (x5 + 1) hV)
set_option maxHeartbeats 4000000 in
set_option maxRecDepth 100000 in
theorem ac_X7_of_5 {p : Program} {l : Launch} {e : Env} {s : State} {m : MethodId} {args : Array Value} {below : List Frame} {meth : Method} {c : Code} {D : va_G} {cs : Nat → ClassId} {Y X : va_W} {ad : Nat → Nat} {g0 : cm_M} (hC : JC p s m args meth c D vwCl (va_A (wc_d Y X cs ad g0) s.heap.size) 6 cX7_of (some .long) wsX7_of RX7 (jt_tys cs)) (Post : Int64 → Prop) (K66 : Int64 → Prop) (hK66 : ∀ (z2 : Int64) , K66 z2 → JJ (wc_d Y X cs ad) p l e rm_X7_of s m args below meth c D vwCl (va_A (wc_d Y X cs ad g0) s.heap.size) 6 0 0 (MQ below (jj_QL (wc_d Y X cs ad) D vwCl (jt_tys cs) g0 s.heap.size (fun r g2 => Post r ∧ g2 = g0)) args s 0 0 (va_A (wc_d Y X cs ad g0) s.heap.size)) 66 [(0, .ref (ad 6)), (1, .ref (ad 32)), (2, .long z2)] [] g0) : ∀ (f : Nat) (x2 : Int64) (x4 : Int32), vc_X7_of_5 g0 K66 Post f x2 x4 → JJ (wc_d Y X cs ad) p l e rm_X7_of s m args below meth c D vwCl (va_A (wc_d Y X cs ad g0) s.heap.size) 6 0 0 (MQ below (jj_QL (wc_d Y X cs ad) D vwCl (jt_tys cs) g0 s.heap.size (fun r g2 => Post r ∧ g2 = g0)) args s 0 0 (va_A (wc_d Y X cs ad g0) s.heap.size)) 5 [(0, .ref (ad 6)), (1, .ref (ad 32)), (2, .long x2), (4, .int x4)] [] g0 := by
  intro f
  induction f with
  | zero => intro x2 x4 hV; exact hV.elim
  | succ f ih =>
    intro x2 x4 hV
    rw [vc_X7_of_5] at hV
    refine jj_iload (pc2 := 7) hC dX7_of_5 3 rfl rfl ?_
    refine jj_aload_n (pc2 := 8) hC dX7_of_7 rfl 0 rfl rfl ?_
    refine cg_P_text (pc2 := 11) hC hi_X7_of_X7 lk_X7_of_1 dX7_of_8 rfl ?_
    refine cg_T_modules (pc2 := 14) hC hi_X7_of_X9 lk_X7_of_2 dX7_of_11 rfl ?_
    refine jj_icmp_ge (pc2 := 17) hC 66 dX7_of_14 (by decide) rfl (fun h1 => ?_) (fun h1 => ?_)
    · have hV := hV.1 h1
      exact jj_sub (lv2 := [(0, .ref (ad 6)), (1, .ref (ad 32)), (2, .long x2)]) [0, 1, 2] rfl (hK66 x2 hV)
    · have hV := hV.2 h1
      refine jj_iconst (pc2 := 18) hC 0 dX7_of_17 (by decide) rfl ?_
      refine jj_istore (pc2 := 20) hC [(5, .int 0), (0, .ref (ad 6)), (1, .ref (ad 32)), (2, .long x2), (4, .int x4)] dX7_of_18 (by decide) rfl rfl ?_
      obtain ⟨n6, hV⟩ := hV
      refine jj_sub (lv2 := [(0, .ref (ad 6)), (1, .ref (ad 32)), (2, .long x2), (4, .int x4), (5, .int 0)]) [1, 2, 3, 4, 0] rfl (ac_X7_of_20 hC x4 Post _ (fun y5 hV => ?_) n6 x2 0 hV)
      refine jj_iinc (pc2 := 63) hC (x4 + 1) [(4, .int (x4 + 1)), (0, .ref (ad 6)), (1, .ref (ad 32)), (2, .long y5)] dX7_of_60 3 rfl rfl (by decide) rfl rfl ?_
      refine jj_goto hC 5 dX7_of_63 (by decide) ?_
      exact jj_sub (lv2 := [(0, .ref (ad 6)), (1, .ref (ad 32)), (2, .long y5), (4, .int (x4 + 1))]) [1, 2, 3, 0] rfl (ih y5 (x4 + 1) hV)
set_option maxHeartbeats 4000000 in
set_option maxRecDepth 100000 in
theorem ac_X7_of_69 {p : Program} {l : Launch} {e : Env} {s : State} {m : MethodId} {args : Array Value} {below : List Frame} {meth : Method} {c : Code} {D : va_G} {cs : Nat → ClassId} {Y X : va_W} {ad : Nat → Nat} {g0 : cm_M} (hC : JC p s m args meth c D vwCl (va_A (wc_d Y X cs ad g0) s.heap.size) 6 cX7_of (some .long) wsX7_of RX7 (jt_tys cs)) (Post : Int64 → Prop) : ∀ (f : Nat) (x2 : Int64) (x4 : Int32), vc_X7_of_69 g0 Post f x2 x4 → JJ (wc_d Y X cs ad) p l e rm_X7_of s m args below meth c D vwCl (va_A (wc_d Y X cs ad g0) s.heap.size) 6 0 0 (MQ below (jj_QL (wc_d Y X cs ad) D vwCl (jt_tys cs) g0 s.heap.size (fun r g2 => Post r ∧ g2 = g0)) args s 0 0 (va_A (wc_d Y X cs ad g0) s.heap.size)) 69 [(0, .ref (ad 6)), (1, .ref (ad 32)), (2, .long x2), (4, .int x4)] [] g0 := by
  intro f
  induction f with
  | zero => intro x2 x4 hV; exact hV.elim
  | succ f ih =>
    intro x2 x4 hV
    rw [vc_X7_of_69] at hV
    refine jj_iload (pc2 := 71) hC dX7_of_69 3 rfl rfl ?_
    refine jj_aload_n (pc2 := 72) hC dX7_of_71 rfl 0 rfl rfl ?_
    refine cg_P_homeSets (pc2 := 75) hC hi_X7_of_X7 lk_X7_of_4 dX7_of_72 rfl ?_
    refine cg_S_size (pc2 := 78) hC hi_X7_of_X3 lk_X7_of_5 dX7_of_75 rfl ?_
    refine jj_icmp_ge (pc2 := 81) hC 133 dX7_of_78 (by decide) rfl (fun h8 => ?_) (fun h8 => ?_)
    · have hV := hV.1 h8
      refine jj_lload_n (pc2 := 134) hC dX7_of_133 rfl 2 rfl rfl ?_
      exact jj_lret hC dX7_of_134 ⟨hV, rfl⟩
    · have hV := hV.2 h8
      refine jj_iconst (pc2 := 82) hC 0 dX7_of_81 (by decide) rfl ?_
      refine jj_aload_n (pc2 := 83) hC dX7_of_82 rfl 0 rfl rfl ?_
      refine jj_aload_n (pc2 := 84) hC dX7_of_83 rfl 0 rfl rfl ?_
      refine cg_P_homeSets (pc2 := 87) hC hi_X7_of_X7 lk_X7_of_4 dX7_of_84 rfl ?_
      refine cg_S_masks (pc2 := 90) hC hi_X7_of_X3 lk_X7_of_6 dX7_of_87 rfl ?_
      refine jj_iload (pc2 := 92) hC dX7_of_90 3 rfl rfl ?_
      refine cl_S_masks (pc2 := 93) hC hV.1 dX7_of_92 rfl ?_
      have hV := hV.2
      refine jj_aload_n (pc2 := 94) hC dX7_of_93 rfl 1 rfl rfl ?_
      refine jj_cVIp (pc2 := 97) (wd := wc_d Y X cs ad) (g := g0) (rest := [.int 0]) hC (Y.length + 6) (jx_at (V := wc_W cs ad g0) rfl) rfl rfl (kc_X7_roomsOf l D cs Y X ad (g0.2.2 34 x4.toNatClampNeg) g0 _ hV) (cwV 2 hC.1.2.2.2.2 gX7_of_X7_roomsOf rfl rfl rfl (by decide +kernel) ⟨by decide, by decide⟩) rfl (Nat.le_of_ble_eq_true rfl) _ rfl dX7_of_94 ⟨Nat.zero_le _, Nat.zero_le _⟩ rfl (fun r9 hV => ?_)
      refine jj_iconst (pc2 := 98) hC 1 dX7_of_97 (by decide) rfl ?_
      refine jj_isub (pc2 := 99) hC dX7_of_98 rfl ?_
      refine jj_mmax (pc2 := 102) (rest := []) hC lk_X7_of_7 lk_X7_of_8 lk_X7_of_9 lk_X7_of_10 (by decide) (Nat.le_of_ble_eq_true rfl) ⟨Nat.zero_le _, Nat.zero_le _⟩ dX7_of_99 rfl ?_
      refine jj_topi (fun y10 ey10 => ?_)
      have hV := hV y10 ey10
      refine jj_istore (pc2 := 104) hC [(5, .int y10), (0, .ref (ad 6)), (1, .ref (ad 32)), (2, .long x2), (4, .int x4)] dX7_of_102 (by decide) rfl rfl ?_
      refine jj_lload_n (pc2 := 105) hC dX7_of_104 rfl 3 rfl rfl ?_
      refine jj_aload_n (pc2 := 106) hC dX7_of_105 rfl 1 rfl rfl ?_
      refine cg_P_homeSets (pc2 := 109) hC hi_X7_of_X7 lk_X7_of_4 dX7_of_106 rfl ?_
      refine cg_S_acts (pc2 := 112) hC hi_X7_of_X3 lk_X7_of_11 dX7_of_109 rfl ?_
      refine jj_iload (pc2 := 114) hC dX7_of_112 4 rfl rfl ?_
      refine cl_S_acts (pc2 := 115) hC hV.1 dX7_of_114 rfl ?_
      have hV := hV.2
      refine jj_i2l (pc2 := 116) hC dX7_of_115 rfl ?_
      refine jj_aload_n (pc2 := 117) hC dX7_of_116 rfl 1 rfl rfl ?_
      refine cg_P_wholeWeight (pc2 := 120) hC hi_X7_of_X7 lk_X7_of_12 dX7_of_117 rfl ?_
      refine jj_lmul (pc2 := 121) hC dX7_of_120 rfl ?_
      refine jj_iload (pc2 := 123) hC dX7_of_121 0 rfl rfl ?_
      refine jj_i2l (pc2 := 124) hC dX7_of_123 rfl ?_
      refine jj_lmul (pc2 := 125) hC dX7_of_124 rfl ?_
      refine jj_ladd (pc2 := 126) hC dX7_of_125 rfl ?_
      refine jj_topl (fun y11 ey11 => ?_)
      have hV := hV y11 ey11
      refine jj_lstore_n (pc2 := 127) hC [(2, .long y11), (5, .int y10), (0, .ref (ad 6)), (1, .ref (ad 32)), (4, .int x4)] dX7_of_126 rfl (by decide) rfl rfl ?_
      refine jj_iinc (pc2 := 130) hC (x4 + 1) [(4, .int (x4 + 1)), (2, .long y11), (5, .int y10), (0, .ref (ad 6)), (1, .ref (ad 32))] dX7_of_127 4 rfl rfl (by decide) rfl rfl ?_
      refine jj_goto hC 69 dX7_of_130 (by decide) ?_
      exact jj_sub (lv2 := [(0, .ref (ad 6)), (1, .ref (ad 32)), (2, .long y11), (4, .int (x4 + 1))]) [3, 4, 1, 0] rfl (ih y11 (x4 + 1) hV)
set_option maxHeartbeats 4000000 in
set_option maxRecDepth 100000 in
theorem kc_X7_of (l : Launch) (D : va_G) (cs : Nat → ClassId) (Y X : va_W) (ad : Nat → Nat) (g0 : cm_M) (Post : Int64 → Prop) (hV : vc_X7_of g0 Post) : JL (wc_d Y X cs ad) D vwCl (jt_tys cs) l yX7_of wsX7_of rm_X7_of 0 0 [.ref (ad 6), .ref (ad 32)] g0 (fun r g2 => Post r ∧ g2 = g0) := by
  refine jj_metL (cc := cX7_of) (nL := 6) (ret := (some .long)) (by decide) rfl (Nat.le_of_ble_eq_true rfl) [(0, .ref (ad 6)), (1, .ref (ad 32))] rfl ?_
  intro p e s m args below meth c hC hnm
  rw [vc_X7_of] at hV
  refine jj_lconst (pc2 := 1) hC 0 dX7_of_0 (by decide) rfl ?_
  refine jj_lstore_n (pc2 := 2) hC [(2, .long 0), (0, .ref (ad 6)), (1, .ref (ad 32))] dX7_of_1 rfl (by decide) rfl rfl ?_
  refine jj_iconst (pc2 := 3) hC 1 dX7_of_2 (by decide) rfl ?_
  refine jj_istore (pc2 := 5) hC [(4, .int 1), (2, .long 0), (0, .ref (ad 6)), (1, .ref (ad 32))] dX7_of_3 (by decide) rfl rfl ?_
  obtain ⟨n13, hV⟩ := hV
  refine jj_sub (lv2 := [(0, .ref (ad 6)), (1, .ref (ad 32)), (2, .long 0), (4, .int 1)]) [2, 3, 1, 0] rfl (ac_X7_of_5 hC Post _ (fun y7 hV => ?_) n13 0 1 hV)
  refine jj_iconst (pc2 := 67) hC 0 dX7_of_66 (by decide) rfl ?_
  refine jj_istore (pc2 := 69) hC [(4, .int 0), (0, .ref (ad 6)), (1, .ref (ad 32)), (2, .long y7)] dX7_of_67 (by decide) rfl rfl ?_
  obtain ⟨n12, hV⟩ := hV
  refine jj_sub (lv2 := [(0, .ref (ad 6)), (1, .ref (ad 32)), (2, .long y7), (4, .int 0)]) [1, 2, 3, 0] rfl (ac_X7_of_69 hC Post n12 y7 0 hV)
theorem hi_X8_readCalls_X8 : ∀ w ∈ u_ws RX8 TX8 2, w ∈ wsX8_readCalls := fun _ h => List.mem_cons_of_mem _ (List.mem_append_left _ (List.mem_append_right _ h))
theorem lk_X8_readCalls_1 : Cond.fieldLink RX8 15 "PartedHouse$RingSearch" "calls" "[I" ∈ wsX8_readCalls := List.mem_of_getElem? (i := 1) rfl
theorem lk_X8_readCalls_9 : Cond.initialized RX10 ∈ wsX8_readCalls := List.mem_of_getElem? (i := 9) rfl
theorem lk_X8_readCalls_8 : Cond.static yX10_tiePlace ∈ wsX8_readCalls := List.mem_of_getElem? (i := 8) rfl
theorem hi_X8_readCalls_X9 : ∀ w ∈ u_ws RX9 TX9 11, w ∈ wsX8_readCalls := fun _ h => List.mem_cons_of_mem _ (List.mem_append_right _ h)
theorem lk_X8_readCalls_3 : Cond.fieldLink RX8 38 "PartedHouse$Text" "ties" "[I" ∈ wsX8_readCalls := List.mem_of_getElem? (i := 3) rfl
theorem lk_X8_readCalls_2 : Cond.fieldLink RX8 32 "PartedHouse$Text" "modules" "I" ∈ wsX8_readCalls := List.mem_of_getElem? (i := 2) rfl
abbrev rm_X8_readCalls : Room := { frames := 1, cells := 0, slots := 0, locals := 23 }
def vc_X8_readCalls_21 (x3 : Int32) (K68 : cm_M → Prop) (Post : cm_M → Prop) : Nat → Int32 → cm_M → Prop
  | 0, _, _ => False
  | f + 1, x4, g => (((g.2.2 12 0) ≤ x4) → (K68 g)) ∧ ((¬ (g.2.2 12 0) ≤ x4) → (vc_X10_tiePlace 0 x3 x4 g (fun (r5 : Int32) => (vp_in r5 420) ∧ ((((g.2.2 11 r5.toNatClampNeg) ≤ 0) → (vc_X8_readCalls_21 x3 K68 Post f (x4 + 1) g)) ∧ ((¬ (g.2.2 11 r5.toNatClampNeg) ≤ 0) → ((vp_in x3 10) ∧ ((vp_in (g.2.2 27 x3.toNatClampNeg) 6) ∧ ((vp_in x4 10) ∧ ((vp_in (g.2.2 27 x3.toNatClampNeg) 6) ∧ (∀ g7 : cm_M, g7 = cm_a g 54 (g.2.2 27 x3.toNatClampNeg) ((g.2.2 54 (g.2.2 27 x3.toNatClampNeg).toNatClampNeg) ||| ((1 : Int32) <<< ((g.2.2 27 x4.toNatClampNeg) &&& 31))) → (vc_X8_readCalls_21 x3 K68 Post f (x4 + 1) g7)))))))))))
def vc_X8_readCalls_10 (Post : cm_M → Prop) : Nat → Int32 → cm_M → Prop
  | 0, _, _ => False
  | f + 1, x3, g => (((g.2.2 12 0) ≤ x3) → (Post g)) ∧ ((¬ (g.2.2 12 0) ≤ x3) → (∃ n9 : Nat, vc_X8_readCalls_21 x3 (fun (g8 : cm_M) => vc_X8_readCalls_10 Post f (x3 + 1) g8) Post n9 0 g))
def vc_X8_readCalls (g0 : cm_M) (Post : cm_M → Prop) : Prop := vc_J7_fill_53178 54 0 g0 (fun (g2 : cm_M) => ∃ n10 : Nat, vc_X8_readCalls_10 Post n10 0 g2)
set_option maxHeartbeats 4000000 in
set_option maxRecDepth 100000 in
theorem ac_X8_readCalls_21 {p : Program} {l : Launch} {e : Env} {s : State} {m : MethodId} {args : Array Value} {below : List Frame} {meth : Method} {c : Code} {D : va_G} {cs : Nat → ClassId} {Y X : va_W} {ad : Nat → Nat} {g0 : cm_M} (hC : JC p s m args meth c D vwCl (va_A (wc_d Y X cs ad g0) s.heap.size) 5 cX8_readCalls none wsX8_readCalls RX8 (jt_tys cs)) (x3 : Int32) (Post : cm_M → Prop) (K68 : cm_M → Prop) (hK68 : ∀ (g : cm_M) , K68 g → JJ (wc_d Y X cs ad) p l e rm_X8_readCalls s m args below meth c D vwCl (va_A (wc_d Y X cs ad g0) s.heap.size) 5 0 0 (MQ below (jj_QV (wc_d Y X cs ad) D vwCl (jt_tys cs) g0 s.heap.size Post) args s 0 0 (va_A (wc_d Y X cs ad g0) s.heap.size)) 68 [(0, .ref (ad 8)), (1, .ref (ad 1)), (2, .ref (ad 32)), (3, .int x3)] [] g) : ∀ (f : Nat) (x4 : Int32) (g : cm_M), vc_X8_readCalls_21 x3 K68 Post f x4 g → JJ (wc_d Y X cs ad) p l e rm_X8_readCalls s m args below meth c D vwCl (va_A (wc_d Y X cs ad g0) s.heap.size) 5 0 0 (MQ below (jj_QV (wc_d Y X cs ad) D vwCl (jt_tys cs) g0 s.heap.size Post) args s 0 0 (va_A (wc_d Y X cs ad g0) s.heap.size)) 21 [(0, .ref (ad 8)), (1, .ref (ad 1)), (2, .ref (ad 32)), (3, .int x3), (4, .int x4)] [] g := by
  intro f
  induction f with
  | zero => intro x4 g hV; exact hV.elim
  | succ f ih =>
    intro x4 g hV
    rw [vc_X8_readCalls_21] at hV
    refine jj_iload (pc2 := 23) hC dX8_readCalls_21 4 rfl rfl ?_
    refine jj_aload_n (pc2 := 24) hC dX8_readCalls_23 rfl 1 rfl rfl ?_
    refine cg_T_modules (pc2 := 27) hC hi_X8_readCalls_X9 lk_X8_readCalls_2 dX8_readCalls_24 rfl ?_
    refine jj_icmp_ge (pc2 := 30) hC 68 dX8_readCalls_27 (by decide) rfl (fun h4 => ?_) (fun h4 => ?_)
    · have hV := hV.1 h4
      exact jj_sub (lv2 := [(0, .ref (ad 8)), (1, .ref (ad 1)), (2, .ref (ad 32)), (3, .int x3)]) [0, 1, 2, 3] rfl (hK68 g hV)
    · have hV := hV.2 h4
      refine jj_aload_n (pc2 := 31) hC dX8_readCalls_30 rfl 1 rfl rfl ?_
      refine cg_T_ties (pc2 := 34) hC hi_X8_readCalls_X9 lk_X8_readCalls_3 dX8_readCalls_31 rfl ?_
      refine jj_iconst (pc2 := 35) hC 0 dX8_readCalls_34 (by decide) rfl ?_
      refine jj_iload_n (pc2 := 36) hC dX8_readCalls_35 rfl 3 rfl rfl ?_
      refine jj_iload (pc2 := 38) hC dX8_readCalls_36 4 rfl rfl ?_
      refine jj_cSIpN (pc2 := 41) (wd := wc_d Y X cs ad) (g := g) (rest := [.ref (ad 23)]) hC (kc_X10_tiePlace l D cs Y X ad 0 x3 x4 g _ hV) ⟨va_cnB (host := "PartedHouse") 3 hC.1.2.2.2.2 gX8_readCalls_X10_tiePlace_n41 rfl rfl rfl (hC.2.1.2.1 _ (List.mem_of_getElem? (i := 10) rfl)) (hC.1.2.2.2.2 _ lk_X8_readCalls_9) (by decide +kernel) ⟨by decide, by decide⟩, hC.1.2.2.2.2 _ lk_X8_readCalls_8, trivial⟩ rfl (Nat.le_of_ble_eq_true rfl) _ rfl dX8_readCalls_38 ⟨Nat.zero_le _, Nat.zero_le _⟩ rfl (fun r5 hV => ?_)
      refine cl_T_ties (pc2 := 42) hC hV.1 dX8_readCalls_41 rfl ?_
      have hV := hV.2
      refine jj_if_le (pc2 := 45) hC 62 dX8_readCalls_42 (by decide) rfl (fun h6 => ?_) (fun h6 => ?_)
      · have hV := hV.1 h6
        refine jj_iinc (pc2 := 65) hC (x4 + 1) [(4, .int (x4 + 1)), (0, .ref (ad 8)), (1, .ref (ad 1)), (2, .ref (ad 32)), (3, .int x3)] dX8_readCalls_62 4 rfl rfl (by decide) rfl rfl ?_
        refine jj_goto hC 21 dX8_readCalls_65 (by decide) ?_
        exact jj_sub (lv2 := [(0, .ref (ad 8)), (1, .ref (ad 1)), (2, .ref (ad 32)), (3, .int x3), (4, .int (x4 + 1))]) [1, 2, 3, 4, 0] rfl (ih (x4 + 1) g hV)
      · have hV := hV.2 h6
        refine jj_aload_n (pc2 := 46) hC dX8_readCalls_45 rfl 0 rfl rfl ?_
        refine cg_G_calls (pc2 := 49) hC hi_X8_readCalls_X8 lk_X8_readCalls_1 dX8_readCalls_46 rfl ?_
        refine jj_aload_n (pc2 := 50) hC dX8_readCalls_49 rfl 2 rfl rfl ?_
        refine jj_iload_n (pc2 := 51) hC dX8_readCalls_50 rfl 3 rfl rfl ?_
        refine cl_H_rooms (pc2 := 52) hC hV.1 dX8_readCalls_51 rfl ?_
        have hV := hV.2
        refine jj_dup2 (pc2 := 53) hC dX8_readCalls_52 rfl rfl rfl ?_
        refine cl_G_calls (pc2 := 54) hC hV.1 dX8_readCalls_53 rfl ?_
        have hV := hV.2
        refine jj_iconst (pc2 := 55) hC 1 dX8_readCalls_54 (by decide) rfl ?_
        refine jj_aload_n (pc2 := 56) hC dX8_readCalls_55 rfl 2 rfl rfl ?_
        refine jj_iload (pc2 := 58) hC dX8_readCalls_56 4 rfl rfl ?_
        refine cl_H_rooms (pc2 := 59) hC hV.1 dX8_readCalls_58 rfl ?_
        have hV := hV.2
        refine jj_ishl (pc2 := 60) hC dX8_readCalls_59 rfl ?_
        refine jj_ior (pc2 := 61) hC dX8_readCalls_60 rfl ?_
        refine ct_G_calls (pc2 := 62) hC hV.1 dX8_readCalls_61 rfl (fun g7 eg7 => ?_)
        have hV := hV.2 g7 eg7
        refine jj_iinc (pc2 := 65) hC (x4 + 1) [(4, .int (x4 + 1)), (0, .ref (ad 8)), (1, .ref (ad 1)), (2, .ref (ad 32)), (3, .int x3)] dX8_readCalls_62 4 rfl rfl (by decide) rfl rfl ?_
        refine jj_goto hC 21 dX8_readCalls_65 (by decide) ?_
        exact jj_sub (lv2 := [(0, .ref (ad 8)), (1, .ref (ad 1)), (2, .ref (ad 32)), (3, .int x3), (4, .int (x4 + 1))]) [1, 2, 3, 4, 0] rfl (ih (x4 + 1) g7 hV)
set_option maxHeartbeats 4000000 in
set_option maxRecDepth 100000 in
theorem ac_X8_readCalls_10 {p : Program} {l : Launch} {e : Env} {s : State} {m : MethodId} {args : Array Value} {below : List Frame} {meth : Method} {c : Code} {D : va_G} {cs : Nat → ClassId} {Y X : va_W} {ad : Nat → Nat} {g0 : cm_M} (hC : JC p s m args meth c D vwCl (va_A (wc_d Y X cs ad g0) s.heap.size) 5 cX8_readCalls none wsX8_readCalls RX8 (jt_tys cs)) (Post : cm_M → Prop) : ∀ (f : Nat) (x3 : Int32) (g : cm_M), vc_X8_readCalls_10 Post f x3 g → JJ (wc_d Y X cs ad) p l e rm_X8_readCalls s m args below meth c D vwCl (va_A (wc_d Y X cs ad g0) s.heap.size) 5 0 0 (MQ below (jj_QV (wc_d Y X cs ad) D vwCl (jt_tys cs) g0 s.heap.size Post) args s 0 0 (va_A (wc_d Y X cs ad g0) s.heap.size)) 10 [(0, .ref (ad 8)), (1, .ref (ad 1)), (2, .ref (ad 32)), (3, .int x3)] [] g := by
  intro f
  induction f with
  | zero => intro x3 g hV; exact hV.elim
  | succ f ih =>
    intro x3 g hV
    rw [vc_X8_readCalls_10] at hV
    refine jj_iload_n (pc2 := 11) hC dX8_readCalls_10 rfl 3 rfl rfl ?_
    refine jj_aload_n (pc2 := 12) hC dX8_readCalls_11 rfl 1 rfl rfl ?_
    refine cg_T_modules (pc2 := 15) hC hi_X8_readCalls_X9 lk_X8_readCalls_2 dX8_readCalls_12 rfl ?_
    refine jj_icmp_ge (pc2 := 18) hC 74 dX8_readCalls_15 (by decide) rfl (fun h3 => ?_) (fun h3 => ?_)
    · have hV := hV.1 h3
      exact jj_vret hC dX8_readCalls_74 hV
    · have hV := hV.2 h3
      refine jj_iconst (pc2 := 19) hC 0 dX8_readCalls_18 (by decide) rfl ?_
      refine jj_istore (pc2 := 21) hC [(4, .int 0), (0, .ref (ad 8)), (1, .ref (ad 1)), (2, .ref (ad 32)), (3, .int x3)] dX8_readCalls_19 (by decide) rfl rfl ?_
      obtain ⟨n9, hV⟩ := hV
      refine jj_sub (lv2 := [(0, .ref (ad 8)), (1, .ref (ad 1)), (2, .ref (ad 32)), (3, .int x3), (4, .int 0)]) [1, 2, 3, 4, 0] rfl (ac_X8_readCalls_21 hC x3 Post _ (fun g8 hV => ?_) n9 0 g hV)
      refine jj_iinc (pc2 := 71) hC (x3 + 1) [(3, .int (x3 + 1)), (0, .ref (ad 8)), (1, .ref (ad 1)), (2, .ref (ad 32))] dX8_readCalls_68 3 rfl rfl (by decide) rfl rfl ?_
      refine jj_goto hC 10 dX8_readCalls_71 (by decide) ?_
      exact jj_sub (lv2 := [(0, .ref (ad 8)), (1, .ref (ad 1)), (2, .ref (ad 32)), (3, .int (x3 + 1))]) [1, 2, 3, 0] rfl (ih (x3 + 1) g8 hV)
set_option maxHeartbeats 4000000 in
set_option maxRecDepth 100000 in
theorem kc_X8_readCalls (l : Launch) (D : va_G) (cs : Nat → ClassId) (Y X : va_W) (ad : Nat → Nat) (g0 : cm_M) (Post : cm_M → Prop) (hV : vc_X8_readCalls g0 Post) : JV (wc_d Y X cs ad) D vwCl (jt_tys cs) l yX8_readCalls wsX8_readCalls rm_X8_readCalls 0 0 [.ref (ad 8), .ref (ad 1), .ref (ad 32)] g0 Post := by
  refine jj_metV (cc := cX8_readCalls) (nL := 5) (ret := none) (by decide) rfl (Nat.le_of_ble_eq_true rfl) [(0, .ref (ad 8)), (1, .ref (ad 1)), (2, .ref (ad 32))] rfl ?_
  intro p e s m args below meth c hC hnm
  rw [vc_X8_readCalls] at hV
  refine jj_aload_n (pc2 := 1) hC dX8_readCalls_0 rfl 0 rfl rfl ?_
  refine cg_G_calls (pc2 := 4) hC hi_X8_readCalls_X8 lk_X8_readCalls_1 dX8_readCalls_1 rfl ?_
  refine jj_iconst (pc2 := 5) hC 0 dX8_readCalls_4 (by decide) rfl ?_
  refine jj_cSV (pc2 := 8) (wd := wc_d Y X cs ad) (g := g0) (rest := []) hC (kc_J7_fill_53178_calls l D cs Y X ad 0 g0 _ hV) (va_cwS 2 hC.1.2.2.2.2 gX8_readCalls_J7_fill_53178 rfl rfl rfl (by decide +kernel) ⟨by decide, by decide⟩) rfl (Nat.le_of_ble_eq_true rfl) _ rfl dX8_readCalls_5 ⟨Nat.zero_le _, Nat.zero_le _⟩ rfl (fun g2 hV => ?_)
  refine jj_iconst (pc2 := 9) hC 0 dX8_readCalls_8 (by decide) rfl ?_
  refine jj_istore_n (pc2 := 10) hC [(3, .int 0), (0, .ref (ad 8)), (1, .ref (ad 1)), (2, .ref (ad 32))] dX8_readCalls_9 rfl (by decide) rfl rfl ?_
  obtain ⟨n10, hV⟩ := hV
  refine jj_sub (lv2 := [(0, .ref (ad 8)), (1, .ref (ad 1)), (2, .ref (ad 32)), (3, .int 0)]) [1, 2, 3, 0] rfl (ac_X8_readCalls_10 hC Post n10 0 g2 hV)
theorem hi_X8_closes_X8 : ∀ w ∈ u_ws RX8 TX8 2, w ∈ wsX8_closes := fun _ h => List.mem_cons_of_mem _ (List.mem_append_right _ h)
theorem lk_X8_closes_2 : Cond.fieldLink RX8 9 "PartedHouse$RingSearch" "path" "[I" ∈ wsX8_closes := List.mem_of_getElem? (i := 2) rfl
theorem lk_X8_closes_1 : Cond.fieldLink RX8 15 "PartedHouse$RingSearch" "calls" "[I" ∈ wsX8_closes := List.mem_of_getElem? (i := 1) rfl
abbrev rm_X8_closes (d : Nat) : Room := { frames := d + 1, cells := 0, slots := 0, locals := 25 * d + 40 }
def vc_X8_closes_43 (REC : Int32 → Int32 → Int32 → cm_M → (Int32 → cm_M → Prop) → Prop) (x1 : Int32) (x2 : Int32) (x3 : Int32) (x4 : Int32) (Post : Int32 → cm_M → Prop) : Nat → Int32 → cm_M → Prop
  | 0, _, _ => False
  | f + 1, x5, g => ((6 ≤ x5) → (Post 0 g)) ∧ ((¬ 6 ≤ x5) → ((((((x4 &&& (x3 ^^^ (-1))) >>> (x5 &&& 31)) &&& 1) = 0) → (vc_X8_closes_43 REC x1 x2 x3 x4 Post f (x5 + 1) g)) ∧ ((¬ (((x4 &&& (x3 ^^^ (-1))) >>> (x5 &&& 31)) &&& 1) = 0) → ((vp_in x1 6) ∧ (∀ g5 : cm_M, g5 = cm_a g 53 x1 x5 → (REC (x1 + 1) x2 (x3 ||| ((1 : Int32) <<< (x5 &&& 31))) g5 (fun (r6 : Int32) (g7 : cm_M) => ((r6 = 0) → (vc_X8_closes_43 REC x1 x2 x3 x4 Post f (x5 + 1) g7)) ∧ ((¬ r6 = 0) → (Post 1 g7)))))))))
def vc_X8_closes_B (REC : Int32 → Int32 → Int32 → cm_M → (Int32 → cm_M → Prop) → Prop) (a1 : Int32) (a2 : Int32) (a3 : Int32) (g0 : cm_M) (Post : Int32 → cm_M → Prop) : Prop := (vp_in (a1 - 1) 6) ∧ ((vp_in (g0.2.2 53 (a1 - 1).toNatClampNeg) 6) ∧ (∀ y1 : Int32, y1 = g0.2.2 54 (g0.2.2 53 (a1 - 1).toNatClampNeg).toNatClampNeg → (((a1 < a2) → (∃ n9 : Nat, vc_X8_closes_43 REC a1 a2 a3 y1 Post n9 0 g0)) ∧ ((¬ a1 < a2) → (((((y1 >>> ((g0.2.2 53 (0 : Int32).toNatClampNeg) &&& 31)) &&& 1) = 0) → (Post 0 g0)) ∧ ((¬ ((y1 >>> ((g0.2.2 53 (0 : Int32).toNatClampNeg) &&& 31)) &&& 1) = 0) → (Post 1 g0)))))))
def vc_X8_closes : Nat → Int32 → Int32 → Int32 → cm_M → (Int32 → cm_M → Prop) → Prop
  | 0, _, _, _, _, _ => False
  | d + 1, a1, a2, a3, g0, Post => vc_X8_closes_B (vc_X8_closes d) a1 a2 a3 g0 Post
set_option maxHeartbeats 4000000 in
set_option maxRecDepth 100000 in
theorem ac_X8_closes_43 {p : Program} {l : Launch} {e : Env} {s : State} {m : MethodId} {args : Array Value} {below : List Frame} {meth : Method} {c : Code} {D : va_G} {cs : Nat → ClassId} {Y X : va_W} {ad : Nat → Nat} {g0 : cm_M} {d : Nat} {REC : Int32 → Int32 → Int32 → cm_M → (Int32 → cm_M → Prop) → Prop} (hRec : ∀ (a1 : Int32) (a2 : Int32) (a3 : Int32) (g0 : cm_M) (Post : Int32 → cm_M → Prop), REC a1 a2 a3 g0 Post → JI (wc_d Y X cs ad) D vwCl (jt_tys cs) l yX8_closes wsX8_closes (rm_X8_closes d) 0 0 [.ref (ad 8), .int a1, .int a2, .int a3] g0 Post) (hC : JC p s m args meth c D vwCl (va_A (wc_d Y X cs ad g0) s.heap.size) 6 cX8_closes (some .boolean) wsX8_closes RX8 (jt_tys cs)) (x1 : Int32) (x2 : Int32) (x3 : Int32) (x4 : Int32) (Post : Int32 → cm_M → Prop) : ∀ (f : Nat) (x5 : Int32) (g : cm_M), vc_X8_closes_43 REC x1 x2 x3 x4 Post f x5 g → JJ (wc_d Y X cs ad) p l e (rm_X8_closes (d + 1)) s m args below meth c D vwCl (va_A (wc_d Y X cs ad g0) s.heap.size) 6 0 0 (MQ below (jj_QI (wc_d Y X cs ad) D vwCl (jt_tys cs) g0 s.heap.size Post) args s 0 0 (va_A (wc_d Y X cs ad g0) s.heap.size)) 43 [(0, .ref (ad 8)), (1, .int x1), (2, .int x2), (3, .int x3), (4, .int x4), (5, .int x5)] [] g := by
  intro f
  induction f with
  | zero => intro x5 g hV; exact hV.elim
  | succ f ih =>
    intro x5 g hV
    rw [vc_X8_closes_43] at hV
    refine jj_iload (pc2 := 45) hC dX8_closes_43 5 rfl rfl ?_
    refine jj_bipush (pc2 := 47) hC 6 dX8_closes_45 (by decide) rfl ?_
    refine jj_icmp_ge (pc2 := 50) hC 97 dX8_closes_47 (by decide) rfl (fun h3 => ?_) (fun h3 => ?_)
    · have hV := hV.1 h3
      refine jj_iconst (pc2 := 98) hC 0 dX8_closes_97 (by decide) rfl ?_
      exact jj_zret hC jj_nb0 dX8_closes_98 hV
    · have hV := hV.2 h3
      refine jj_iload (pc2 := 52) hC dX8_closes_50 4 rfl rfl ?_
      refine jj_iload_n (pc2 := 53) hC dX8_closes_52 rfl 3 rfl rfl ?_
      refine jj_iconst (pc2 := 54) hC (-1) dX8_closes_53 (by decide) rfl ?_
      refine jj_ixor (pc2 := 55) hC dX8_closes_54 rfl ?_
      refine jj_iand (pc2 := 56) hC dX8_closes_55 rfl ?_
      refine jj_iload (pc2 := 58) hC dX8_closes_56 5 rfl rfl ?_
      refine jj_ishr (pc2 := 59) hC dX8_closes_58 rfl ?_
      refine jj_iconst (pc2 := 60) hC 1 dX8_closes_59 (by decide) rfl ?_
      refine jj_iand (pc2 := 61) hC dX8_closes_60 rfl ?_
      refine jj_if_eq (pc2 := 64) hC 91 dX8_closes_61 (by decide) rfl (fun h4 => ?_) (fun h4 => ?_)
      · have hV := hV.1 h4
        refine jj_iinc (pc2 := 94) hC (x5 + 1) [(5, .int (x5 + 1)), (0, .ref (ad 8)), (1, .int x1), (2, .int x2), (3, .int x3), (4, .int x4)] dX8_closes_91 5 rfl rfl (by decide) rfl rfl ?_
        refine jj_goto hC 43 dX8_closes_94 (by decide) ?_
        exact jj_sub (lv2 := [(0, .ref (ad 8)), (1, .int x1), (2, .int x2), (3, .int x3), (4, .int x4), (5, .int (x5 + 1))]) [1, 2, 3, 4, 5, 0] rfl (ih (x5 + 1) g hV)
      · have hV := hV.2 h4
        refine jj_aload_n (pc2 := 65) hC dX8_closes_64 rfl 0 rfl rfl ?_
        refine cg_G_path (pc2 := 68) hC hi_X8_closes_X8 lk_X8_closes_2 dX8_closes_65 rfl ?_
        refine jj_iload_n (pc2 := 69) hC dX8_closes_68 rfl 1 rfl rfl ?_
        refine jj_iload (pc2 := 71) hC dX8_closes_69 5 rfl rfl ?_
        refine ct_G_path (pc2 := 72) hC hV.1 dX8_closes_71 rfl (fun g5 eg5 => ?_)
        have hV := hV.2 g5 eg5
        refine jj_aload_n (pc2 := 73) hC dX8_closes_72 rfl 0 rfl rfl ?_
        refine jj_iload_n (pc2 := 74) hC dX8_closes_73 rfl 1 rfl rfl ?_
        refine jj_iconst (pc2 := 75) hC 1 dX8_closes_74 (by decide) rfl ?_
        refine jj_iadd (pc2 := 76) hC dX8_closes_75 rfl ?_
        refine jj_iload_n (pc2 := 77) hC dX8_closes_76 rfl 2 rfl rfl ?_
        refine jj_iload_n (pc2 := 78) hC dX8_closes_77 rfl 3 rfl rfl ?_
        refine jj_iconst (pc2 := 79) hC 1 dX8_closes_78 (by decide) rfl ?_
        refine jj_iload (pc2 := 81) hC dX8_closes_79 5 rfl rfl ?_
        refine jj_ishl (pc2 := 82) hC dX8_closes_81 rfl ?_
        refine jj_ior (pc2 := 83) hC dX8_closes_82 rfl ?_
        refine jj_cVI (pc2 := 86) (wd := wc_d Y X cs ad) (g := g5) (rest := []) hC (Y.length + 8) (jx_at (V := wc_W cs ad g5) rfl) rfl rfl (hRec (x1 + 1) x2 (x3 ||| ((1 : Int32) <<< (x5 &&& 31))) g5 _ hV) (cwV 3 hC.1.2.2.2.2 gX8_closes_X8_closes rfl rfl rfl (by decide +kernel) ⟨by show d + 1 + 1 ≤ d + 1 + 1; omega, by show 8 + (6 + 11) + (25 * d + 40) ≤ 25 * (d + 1) + 40; omega⟩) rfl (Nat.le_of_ble_eq_true rfl) _ rfl dX8_closes_83 ⟨Nat.zero_le _, Nat.zero_le _⟩ rfl (fun r6 g7 hV => ?_)
        refine jj_if_eq (pc2 := 89) hC 91 dX8_closes_86 (by decide) rfl (fun h8 => ?_) (fun h8 => ?_)
        · have hV := hV.1 h8
          refine jj_iinc (pc2 := 94) hC (x5 + 1) [(5, .int (x5 + 1)), (0, .ref (ad 8)), (1, .int x1), (2, .int x2), (3, .int x3), (4, .int x4)] dX8_closes_91 5 rfl rfl (by decide) rfl rfl ?_
          refine jj_goto hC 43 dX8_closes_94 (by decide) ?_
          exact jj_sub (lv2 := [(0, .ref (ad 8)), (1, .int x1), (2, .int x2), (3, .int x3), (4, .int x4), (5, .int (x5 + 1))]) [1, 2, 3, 4, 5, 0] rfl (ih (x5 + 1) g7 hV)
        · have hV := hV.2 h8
          refine jj_iconst (pc2 := 90) hC 1 dX8_closes_89 (by decide) rfl ?_
          exact jj_zret hC jj_nb1 dX8_closes_90 hV
set_option maxHeartbeats 4000000 in
set_option maxRecDepth 100000 in
theorem kc_X8_closes_B (l : Launch) (D : va_G) (cs : Nat → ClassId) (Y X : va_W) (ad : Nat → Nat) (d : Nat) (REC : Int32 → Int32 → Int32 → cm_M → (Int32 → cm_M → Prop) → Prop) (hRec : ∀ (a1 : Int32) (a2 : Int32) (a3 : Int32) (g0 : cm_M) (Post : Int32 → cm_M → Prop), REC a1 a2 a3 g0 Post → JI (wc_d Y X cs ad) D vwCl (jt_tys cs) l yX8_closes wsX8_closes (rm_X8_closes d) 0 0 [.ref (ad 8), .int a1, .int a2, .int a3] g0 Post) (a1 : Int32) (a2 : Int32) (a3 : Int32) (g0 : cm_M) (Post : Int32 → cm_M → Prop) (hV : vc_X8_closes_B REC a1 a2 a3 g0 Post) : JI (wc_d Y X cs ad) D vwCl (jt_tys cs) l yX8_closes wsX8_closes (rm_X8_closes (d + 1)) 0 0 [.ref (ad 8), .int a1, .int a2, .int a3] g0 Post := by
  refine jj_metI (cc := cX8_closes) (nL := 6) (ret := (some .boolean)) (by decide) rfl (Nat.le_of_ble_eq_true rfl) [(0, .ref (ad 8)), (1, .int a1), (2, .int a2), (3, .int a3)] rfl ?_
  intro p e s m args below meth c hC hnm
  rw [vc_X8_closes_B] at hV
  refine jj_aload_n (pc2 := 1) hC dX8_closes_0 rfl 0 rfl rfl ?_
  refine cg_G_calls (pc2 := 4) hC hi_X8_closes_X8 lk_X8_closes_1 dX8_closes_1 rfl ?_
  refine jj_aload_n (pc2 := 5) hC dX8_closes_4 rfl 0 rfl rfl ?_
  refine cg_G_path (pc2 := 8) hC hi_X8_closes_X8 lk_X8_closes_2 dX8_closes_5 rfl ?_
  refine jj_iload_n (pc2 := 9) hC dX8_closes_8 rfl 1 rfl rfl ?_
  refine jj_iconst (pc2 := 10) hC 1 dX8_closes_9 (by decide) rfl ?_
  refine jj_isub (pc2 := 11) hC dX8_closes_10 rfl ?_
  refine cl_G_path (pc2 := 12) hC hV.1 dX8_closes_11 rfl ?_
  have hV := hV.2
  refine cl_G_calls (pc2 := 13) hC hV.1 dX8_closes_12 rfl ?_
  have hV := hV.2
  refine jj_topi (fun y1 ey1 => ?_)
  have hV := hV y1 ey1
  refine jj_istore (pc2 := 15) hC [(4, .int y1), (0, .ref (ad 8)), (1, .int a1), (2, .int a2), (3, .int a3)] dX8_closes_13 (by decide) rfl rfl ?_
  refine jj_iload_n (pc2 := 16) hC dX8_closes_15 rfl 2 rfl rfl ?_
  refine jj_iload_n (pc2 := 17) hC dX8_closes_16 rfl 3 rfl rfl ?_
  refine jj_icmp_lt (pc2 := 20) hC 40 dX8_closes_17 (by decide) rfl (fun h2 => ?_) (fun h2 => ?_)
  · have hV := hV.1 h2
    refine jj_iconst (pc2 := 41) hC 0 dX8_closes_40 (by decide) rfl ?_
    refine jj_istore (pc2 := 43) hC [(5, .int 0), (4, .int y1), (0, .ref (ad 8)), (1, .int a1), (2, .int a2), (3, .int a3)] dX8_closes_41 (by decide) rfl rfl ?_
    obtain ⟨n9, hV⟩ := hV
    refine jj_sub (lv2 := [(0, .ref (ad 8)), (1, .int a1), (2, .int a2), (3, .int a3), (4, .int y1), (5, .int 0)]) [2, 3, 4, 5, 1, 0] rfl (ac_X8_closes_43 hRec hC a1 a2 a3 y1 Post n9 0 g0 hV)
  · have hV := hV.2 h2
    refine jj_iload (pc2 := 22) hC dX8_closes_20 0 rfl rfl ?_
    refine jj_aload_n (pc2 := 23) hC dX8_closes_22 rfl 1 rfl rfl ?_
    refine cg_G_path (pc2 := 26) hC hi_X8_closes_X8 lk_X8_closes_2 dX8_closes_23 rfl ?_
    refine jj_iconst (pc2 := 27) hC 0 dX8_closes_26 (by decide) rfl ?_
    refine cl_G_path (pc2 := 28) hC (jx_lit (by decide) (by decide)) dX8_closes_27 rfl ?_
    refine jj_ishr (pc2 := 29) hC dX8_closes_28 rfl ?_
    refine jj_iconst (pc2 := 30) hC 1 dX8_closes_29 (by decide) rfl ?_
    refine jj_iand (pc2 := 31) hC dX8_closes_30 rfl ?_
    refine jj_if_eq (pc2 := 34) hC 38 dX8_closes_31 (by decide) rfl (fun h10 => ?_) (fun h10 => ?_)
    · have hV := hV.1 h10
      refine jj_iconst (pc2 := 39) hC 0 dX8_closes_38 (by decide) rfl ?_
      exact jj_zret hC jj_nb0 dX8_closes_39 hV
    · have hV := hV.2 h10
      refine jj_iconst (pc2 := 35) hC 1 dX8_closes_34 (by decide) rfl ?_
      refine jj_goto hC 39 dX8_closes_35 (by decide) ?_
      exact jj_zret hC jj_nb1 dX8_closes_39 hV
theorem kc_X8_closes (l : Launch) (D : va_G) (cs : Nat → ClassId) (Y X : va_W) (ad : Nat → Nat) (d : Nat) : ∀ (a1 : Int32) (a2 : Int32) (a3 : Int32) (g0 : cm_M) (Post : Int32 → cm_M → Prop), vc_X8_closes d a1 a2 a3 g0 Post → JI (wc_d Y X cs ad) D vwCl (jt_tys cs) l yX8_closes wsX8_closes (rm_X8_closes d) 0 0 [.ref (ad 8), .int a1, .int a2, .int a3] g0 Post := by
  induction d with
  | zero => intro a1 a2 a3 g0 Post hV; exact hV.elim
  | succ d ih => intro a1 a2 a3 g0 Post hV; exact kc_X8_closes_B l D cs Y X ad d _ ih a1 a2 a3 g0 Post hV
theorem hi_X8_shortest_X8 : ∀ w ∈ u_ws RX8 TX8 2, w ∈ wsX8_shortest := fun _ h => List.mem_cons_of_mem _ (List.mem_append_left _ (List.mem_append_right _ h))
theorem lk_X8_shortest_1 : Cond.fieldLink RX8 9 "PartedHouse$RingSearch" "path" "[I" ∈ wsX8_shortest := List.mem_of_getElem? (i := 1) rfl
abbrev rm_X8_shortest : Room := { frames := 14, cells := 0, slots := 0, locals := 365 }
def vc_X8_shortest_17 (x3 : Int32) (K53 : cm_M → Prop) (Post : Int32 → cm_M → Prop) : Nat → Int32 → cm_M → Prop
  | 0, _, _ => False
  | f + 1, x4, g => ((6 ≤ x4) → (K53 g)) ∧ ((¬ 6 ≤ x4) → (∀ g5 : cm_M, g5 = cm_a g 53 0 x4 → (∃ d9 : Nat, d9 ≤ 12 ∧ vc_X8_closes d9 1 x3 ((1 : Int32) <<< (x4 &&& 31)) g5 (fun (r6 : Int32) (g7 : cm_M) => ((r6 = 0) → (vc_X8_shortest_17 x3 K53 Post f (x4 + 1) g7)) ∧ ((¬ r6 = 0) → (Post x3 g7))))))
def vc_X8_shortest_8 (Post : Int32 → cm_M → Prop) : Nat → Int32 → cm_M → Prop
  | 0, _, _ => False
  | f + 1, x3, g => ((6 < x3) → (Post 0 g)) ∧ ((¬ 6 < x3) → (∃ n11 : Nat, vc_X8_shortest_17 x3 (fun (g10 : cm_M) => vc_X8_shortest_8 Post f (x3 + 1) g10) Post n11 0 g))
def vc_X8_shortest (g0 : cm_M) (Post : Int32 → cm_M → Prop) : Prop := vc_X8_readCalls g0 (fun (g2 : cm_M) => ∃ n12 : Nat, vc_X8_shortest_8 Post n12 2 g2)
set_option maxHeartbeats 4000000 in
set_option maxRecDepth 100000 in
theorem ac_X8_shortest_17 {p : Program} {l : Launch} {e : Env} {s : State} {m : MethodId} {args : Array Value} {below : List Frame} {meth : Method} {c : Code} {D : va_G} {cs : Nat → ClassId} {Y X : va_W} {ad : Nat → Nat} {g0 : cm_M} (hC : JC p s m args meth c D vwCl (va_A (wc_d Y X cs ad g0) s.heap.size) 5 cX8_shortest (some .int) wsX8_shortest RX8 (jt_tys cs)) (x3 : Int32) (Post : Int32 → cm_M → Prop) (K53 : cm_M → Prop) (hK53 : ∀ (g : cm_M) , K53 g → JJ (wc_d Y X cs ad) p l e rm_X8_shortest s m args below meth c D vwCl (va_A (wc_d Y X cs ad g0) s.heap.size) 5 0 0 (MQ below (jj_QI (wc_d Y X cs ad) D vwCl (jt_tys cs) g0 s.heap.size Post) args s 0 0 (va_A (wc_d Y X cs ad g0) s.heap.size)) 53 [(0, .ref (ad 8)), (3, .int x3)] [] g) : ∀ (f : Nat) (x4 : Int32) (g : cm_M), vc_X8_shortest_17 x3 K53 Post f x4 g → JJ (wc_d Y X cs ad) p l e rm_X8_shortest s m args below meth c D vwCl (va_A (wc_d Y X cs ad g0) s.heap.size) 5 0 0 (MQ below (jj_QI (wc_d Y X cs ad) D vwCl (jt_tys cs) g0 s.heap.size Post) args s 0 0 (va_A (wc_d Y X cs ad g0) s.heap.size)) 17 [(0, .ref (ad 8)), (3, .int x3), (4, .int x4)] [] g := by
  intro f
  induction f with
  | zero => intro x4 g hV; exact hV.elim
  | succ f ih =>
    intro x4 g hV
    rw [vc_X8_shortest_17] at hV
    refine jj_iload (pc2 := 19) hC dX8_shortest_17 2 rfl rfl ?_
    refine jj_bipush (pc2 := 21) hC 6 dX8_shortest_19 (by decide) rfl ?_
    refine jj_icmp_ge (pc2 := 24) hC 53 dX8_shortest_21 (by decide) rfl (fun h4 => ?_) (fun h4 => ?_)
    · have hV := hV.1 h4
      exact jj_sub (lv2 := [(0, .ref (ad 8)), (3, .int x3)]) [0, 1] rfl (hK53 g hV)
    · have hV := hV.2 h4
      refine jj_aload_n (pc2 := 25) hC dX8_shortest_24 rfl 0 rfl rfl ?_
      refine cg_G_path (pc2 := 28) hC hi_X8_shortest_X8 lk_X8_shortest_1 dX8_shortest_25 rfl ?_
      refine jj_iconst (pc2 := 29) hC 0 dX8_shortest_28 (by decide) rfl ?_
      refine jj_iload (pc2 := 31) hC dX8_shortest_29 2 rfl rfl ?_
      refine ct_G_path (pc2 := 32) hC (jx_lit (by decide) (by decide)) dX8_shortest_31 rfl (fun g5 eg5 => ?_)
      have hV := hV g5 eg5
      refine jj_aload_n (pc2 := 33) hC dX8_shortest_32 rfl 0 rfl rfl ?_
      refine jj_iconst (pc2 := 34) hC 1 dX8_shortest_33 (by decide) rfl ?_
      refine jj_iload_n (pc2 := 35) hC dX8_shortest_34 rfl 1 rfl rfl ?_
      refine jj_iconst (pc2 := 36) hC 1 dX8_shortest_35 (by decide) rfl ?_
      refine jj_iload (pc2 := 38) hC dX8_shortest_36 2 rfl rfl ?_
      refine jj_ishl (pc2 := 39) hC dX8_shortest_38 rfl ?_
      obtain ⟨d9, hd9, hV⟩ := hV
      refine jj_cVI (pc2 := 42) (wd := wc_d Y X cs ad) (g := g5) (rest := []) hC (Y.length + 8) (jx_at (V := wc_W cs ad g5) rfl) rfl rfl (kc_X8_closes l D cs Y X ad d9 1 x3 ((1 : Int32) <<< (x4 &&& 31)) g5 _ hV) (cwV 3 hC.1.2.2.2.2 gX8_shortest_X8_closes rfl rfl rfl (by decide +kernel) ⟨by show d9 + 1 + 1 ≤ 14; omega, by show 8 + (6 + 11) + (25 * d9 + 40) ≤ 365; omega⟩) rfl (Nat.le_of_ble_eq_true rfl) _ rfl dX8_shortest_39 ⟨Nat.zero_le _, Nat.zero_le _⟩ rfl (fun r6 g7 hV => ?_)
      refine jj_if_eq (pc2 := 45) hC 47 dX8_shortest_42 (by decide) rfl (fun h8 => ?_) (fun h8 => ?_)
      · have hV := hV.1 h8
        refine jj_iinc (pc2 := 50) hC (x4 + 1) [(4, .int (x4 + 1)), (0, .ref (ad 8)), (3, .int x3)] dX8_shortest_47 2 rfl rfl (by decide) rfl rfl ?_
        refine jj_goto hC 17 dX8_shortest_50 (by decide) ?_
        exact jj_sub (lv2 := [(0, .ref (ad 8)), (3, .int x3), (4, .int (x4 + 1))]) [1, 2, 0] rfl (ih (x4 + 1) g7 hV)
      · have hV := hV.2 h8
        refine jj_iload_n (pc2 := 46) hC dX8_shortest_45 rfl 1 rfl rfl ?_
        exact jj_iret hC dX8_shortest_46 hV
set_option maxHeartbeats 4000000 in
set_option maxRecDepth 100000 in
theorem ac_X8_shortest_8 {p : Program} {l : Launch} {e : Env} {s : State} {m : MethodId} {args : Array Value} {below : List Frame} {meth : Method} {c : Code} {D : va_G} {cs : Nat → ClassId} {Y X : va_W} {ad : Nat → Nat} {g0 : cm_M} (hC : JC p s m args meth c D vwCl (va_A (wc_d Y X cs ad g0) s.heap.size) 5 cX8_shortest (some .int) wsX8_shortest RX8 (jt_tys cs)) (Post : Int32 → cm_M → Prop) : ∀ (f : Nat) (x3 : Int32) (g : cm_M), vc_X8_shortest_8 Post f x3 g → JJ (wc_d Y X cs ad) p l e rm_X8_shortest s m args below meth c D vwCl (va_A (wc_d Y X cs ad g0) s.heap.size) 5 0 0 (MQ below (jj_QI (wc_d Y X cs ad) D vwCl (jt_tys cs) g0 s.heap.size Post) args s 0 0 (va_A (wc_d Y X cs ad g0) s.heap.size)) 8 [(0, .ref (ad 8)), (3, .int x3)] [] g := by
  intro f
  induction f with
  | zero => intro x3 g hV; exact hV.elim
  | succ f ih =>
    intro x3 g hV
    rw [vc_X8_shortest_8] at hV
    refine jj_iload_n (pc2 := 9) hC dX8_shortest_8 rfl 1 rfl rfl ?_
    refine jj_bipush (pc2 := 11) hC 6 dX8_shortest_9 (by decide) rfl ?_
    refine jj_icmp_gt (pc2 := 14) hC 59 dX8_shortest_11 (by decide) rfl (fun h3 => ?_) (fun h3 => ?_)
    · have hV := hV.1 h3
      refine jj_iconst (pc2 := 60) hC 0 dX8_shortest_59 (by decide) rfl ?_
      exact jj_iret hC dX8_shortest_60 hV
    · have hV := hV.2 h3
      refine jj_iconst (pc2 := 15) hC 0 dX8_shortest_14 (by decide) rfl ?_
      refine jj_istore (pc2 := 17) hC [(4, .int 0), (0, .ref (ad 8)), (3, .int x3)] dX8_shortest_15 (by decide) rfl rfl ?_
      obtain ⟨n11, hV⟩ := hV
      refine jj_sub (lv2 := [(0, .ref (ad 8)), (3, .int x3), (4, .int 0)]) [1, 2, 0] rfl (ac_X8_shortest_17 hC x3 Post _ (fun g10 hV => ?_) n11 0 g hV)
      refine jj_iinc (pc2 := 56) hC (x3 + 1) [(3, .int (x3 + 1)), (0, .ref (ad 8))] dX8_shortest_53 1 rfl rfl (by decide) rfl rfl ?_
      refine jj_goto hC 8 dX8_shortest_56 (by decide) ?_
      exact jj_sub (lv2 := [(0, .ref (ad 8)), (3, .int (x3 + 1))]) [1, 0] rfl (ih (x3 + 1) g10 hV)
set_option maxHeartbeats 4000000 in
set_option maxRecDepth 100000 in
theorem kc_X8_shortest (l : Launch) (D : va_G) (cs : Nat → ClassId) (Y X : va_W) (ad : Nat → Nat) (g0 : cm_M) (Post : Int32 → cm_M → Prop) (hV : vc_X8_shortest g0 Post) : JI (wc_d Y X cs ad) D vwCl (jt_tys cs) l yX8_shortest wsX8_shortest rm_X8_shortest 0 0 [.ref (ad 8), .ref (ad 1), .ref (ad 32)] g0 Post := by
  refine jj_metI (cc := cX8_shortest) (nL := 5) (ret := (some .int)) (by decide) rfl (Nat.le_of_ble_eq_true rfl) [(0, .ref (ad 8)), (1, .ref (ad 1)), (2, .ref (ad 32))] rfl ?_
  intro p e s m args below meth c hC hnm
  rw [vc_X8_shortest] at hV
  refine jj_aload_n (pc2 := 1) hC dX8_shortest_0 rfl 0 rfl rfl ?_
  refine jj_aload_n (pc2 := 2) hC dX8_shortest_1 rfl 1 rfl rfl ?_
  refine jj_aload_n (pc2 := 3) hC dX8_shortest_2 rfl 2 rfl rfl ?_
  refine jj_cVV (pc2 := 6) (wd := wc_d Y X cs ad) (g := g0) (rest := []) hC (Y.length + 8) (jx_at (V := wc_W cs ad g0) rfl) rfl rfl (kc_X8_readCalls l D cs Y X ad  g0 _ hV) (cwV 2 hC.1.2.2.2.2 gX8_shortest_X8_readCalls rfl rfl rfl (by decide +kernel) ⟨by decide, by decide⟩) rfl (Nat.le_of_ble_eq_true rfl) _ rfl dX8_shortest_3 ⟨Nat.zero_le _, Nat.zero_le _⟩ rfl (fun g2 hV => ?_)
  refine jj_iconst (pc2 := 7) hC 2 dX8_shortest_6 (by decide) rfl ?_
  refine jj_istore_n (pc2 := 8) hC [(3, .int 2), (0, .ref (ad 8)), (1, .ref (ad 1)), (2, .ref (ad 32))] dX8_shortest_7 rfl (by decide) rfl rfl ?_
  obtain ⟨n12, hV⟩ := hV
  refine jj_sub (lv2 := [(0, .ref (ad 8)), (3, .int 2)]) [1, 0] rfl (ac_X8_shortest_8 hC Post n12 2 g2 hV)
theorem hi_X9_hasModule_X9 : ∀ w ∈ u_ws RX9 TX9 11, w ∈ wsX9_hasModule := fun _ h => List.mem_cons_of_mem _ (List.mem_append_right _ h)
theorem lk_X9_hasModule_1 : Cond.fieldLink RX9 36 "PartedHouse$Text" "modules" "I" ∈ wsX9_hasModule := List.mem_of_getElem? (i := 1) rfl
abbrev rm_X9_hasModule : Room := { frames := 0, cells := 0, slots := 0, locals := 0 }
def vc_X9_hasModule (a1 : Int32) (g0 : cm_M) (Post : Int32 → Prop) : Prop := ((a1 < 0) → (Post 0)) ∧ ((¬ a1 < 0) → ((((g0.2.2 12 0) ≤ a1) → (Post 0)) ∧ ((¬ (g0.2.2 12 0) ≤ a1) → (Post 1))))
set_option maxHeartbeats 4000000 in
set_option maxRecDepth 100000 in
theorem kc_X9_hasModule (l : Launch) (D : va_G) (cs : Nat → ClassId) (Y X : va_W) (ad : Nat → Nat) (a1 : Int32) (g0 : cm_M) (Post : Int32 → Prop) (hV : vc_X9_hasModule a1 g0 Post) : JI (wc_d Y X cs ad) D vwCl (jt_tys cs) l yX9_hasModule wsX9_hasModule rm_X9_hasModule 0 0 [.ref (ad 1), .int a1] g0 (fun r g2 => Post r ∧ g2 = g0) := by
  refine jj_metI (cc := cX9_hasModule) (nL := 2) (ret := (some .boolean)) (by decide) rfl (Nat.le_of_ble_eq_true rfl) [(0, .ref (ad 1)), (1, .int a1)] rfl ?_
  intro p e s m args below meth c hC hnm
  rw [vc_X9_hasModule] at hV
  refine jj_iload_n (pc2 := 1) hC dX9_hasModule_0 rfl 1 rfl rfl ?_
  refine jj_if_lt (pc2 := 4) hC 16 dX9_hasModule_1 (by decide) rfl (fun h1 => ?_) (fun h1 => ?_)
  · have hV := hV.1 h1
    refine jj_iconst (pc2 := 17) hC 0 dX9_hasModule_16 (by decide) rfl ?_
    exact jj_zret hC jj_nb0 dX9_hasModule_17 ⟨hV, rfl⟩
  · have hV := hV.2 h1
    refine jj_iload_n (pc2 := 5) hC dX9_hasModule_4 rfl 1 rfl rfl ?_
    refine jj_aload_n (pc2 := 6) hC dX9_hasModule_5 rfl 0 rfl rfl ?_
    refine cg_T_modules (pc2 := 9) hC hi_X9_hasModule_X9 lk_X9_hasModule_1 dX9_hasModule_6 rfl ?_
    refine jj_icmp_ge (pc2 := 12) hC 16 dX9_hasModule_9 (by decide) rfl (fun h2 => ?_) (fun h2 => ?_)
    · have hV := hV.1 h2
      refine jj_iconst (pc2 := 17) hC 0 dX9_hasModule_16 (by decide) rfl ?_
      exact jj_zret hC jj_nb0 dX9_hasModule_17 ⟨hV, rfl⟩
    · have hV := hV.2 h2
      refine jj_iconst (pc2 := 13) hC 1 dX9_hasModule_12 (by decide) rfl ?_
      refine jj_goto hC 17 dX9_hasModule_13 (by decide) ?_
      exact jj_zret hC jj_nb1 dX9_hasModule_17 ⟨hV, rfl⟩
theorem hi_X9_hasTable_X9 : ∀ w ∈ u_ws RX9 TX9 11, w ∈ wsX9_hasTable := fun _ h => List.mem_cons_of_mem _ (List.mem_append_right _ h)
theorem lk_X9_hasTable_1 : Cond.fieldLink RX9 40 "PartedHouse$Text" "tables" "I" ∈ wsX9_hasTable := List.mem_of_getElem? (i := 1) rfl
abbrev rm_X9_hasTable : Room := { frames := 0, cells := 0, slots := 0, locals := 0 }
def vc_X9_hasTable (a1 : Int32) (g0 : cm_M) (Post : Int32 → Prop) : Prop := ((a1 < 0) → (Post 0)) ∧ ((¬ a1 < 0) → ((((g0.2.2 13 0) ≤ a1) → (Post 0)) ∧ ((¬ (g0.2.2 13 0) ≤ a1) → (Post 1))))
set_option maxHeartbeats 4000000 in
set_option maxRecDepth 100000 in
theorem kc_X9_hasTable (l : Launch) (D : va_G) (cs : Nat → ClassId) (Y X : va_W) (ad : Nat → Nat) (a1 : Int32) (g0 : cm_M) (Post : Int32 → Prop) (hV : vc_X9_hasTable a1 g0 Post) : JI (wc_d Y X cs ad) D vwCl (jt_tys cs) l yX9_hasTable wsX9_hasTable rm_X9_hasTable 0 0 [.ref (ad 1), .int a1] g0 (fun r g2 => Post r ∧ g2 = g0) := by
  refine jj_metI (cc := cX9_hasTable) (nL := 2) (ret := (some .boolean)) (by decide) rfl (Nat.le_of_ble_eq_true rfl) [(0, .ref (ad 1)), (1, .int a1)] rfl ?_
  intro p e s m args below meth c hC hnm
  rw [vc_X9_hasTable] at hV
  refine jj_iload_n (pc2 := 1) hC dX9_hasTable_0 rfl 1 rfl rfl ?_
  refine jj_if_lt (pc2 := 4) hC 16 dX9_hasTable_1 (by decide) rfl (fun h1 => ?_) (fun h1 => ?_)
  · have hV := hV.1 h1
    refine jj_iconst (pc2 := 17) hC 0 dX9_hasTable_16 (by decide) rfl ?_
    exact jj_zret hC jj_nb0 dX9_hasTable_17 ⟨hV, rfl⟩
  · have hV := hV.2 h1
    refine jj_iload_n (pc2 := 5) hC dX9_hasTable_4 rfl 1 rfl rfl ?_
    refine jj_aload_n (pc2 := 6) hC dX9_hasTable_5 rfl 0 rfl rfl ?_
    refine cg_T_tables (pc2 := 9) hC hi_X9_hasTable_X9 lk_X9_hasTable_1 dX9_hasTable_6 rfl ?_
    refine jj_icmp_ge (pc2 := 12) hC 16 dX9_hasTable_9 (by decide) rfl (fun h2 => ?_) (fun h2 => ?_)
    · have hV := hV.1 h2
      refine jj_iconst (pc2 := 17) hC 0 dX9_hasTable_16 (by decide) rfl ?_
      exact jj_zret hC jj_nb0 dX9_hasTable_17 ⟨hV, rfl⟩
    · have hV := hV.2 h2
      refine jj_iconst (pc2 := 13) hC 1 dX9_hasTable_12 (by decide) rfl ?_
      refine jj_goto hC 17 dX9_hasTable_13 (by decide) ?_
      exact jj_zret hC jj_nb1 dX9_hasTable_17 ⟨hV, rfl⟩
theorem hi_X9_hasRoutine_X9 : ∀ w ∈ u_ws RX9 TX9 11, w ∈ wsX9_hasRoutine := fun _ h => List.mem_cons_of_mem _ (List.mem_append_right _ h)
theorem lk_X9_hasRoutine_1 : Cond.fieldLink RX9 43 "PartedHouse$Text" "routines" "I" ∈ wsX9_hasRoutine := List.mem_of_getElem? (i := 1) rfl
abbrev rm_X9_hasRoutine : Room := { frames := 0, cells := 0, slots := 0, locals := 0 }
def vc_X9_hasRoutine (a1 : Int32) (g0 : cm_M) (Post : Int32 → Prop) : Prop := ((a1 < 0) → (Post 0)) ∧ ((¬ a1 < 0) → ((((g0.2.2 14 0) ≤ a1) → (Post 0)) ∧ ((¬ (g0.2.2 14 0) ≤ a1) → (Post 1))))
set_option maxHeartbeats 4000000 in
set_option maxRecDepth 100000 in
theorem kc_X9_hasRoutine (l : Launch) (D : va_G) (cs : Nat → ClassId) (Y X : va_W) (ad : Nat → Nat) (a1 : Int32) (g0 : cm_M) (Post : Int32 → Prop) (hV : vc_X9_hasRoutine a1 g0 Post) : JI (wc_d Y X cs ad) D vwCl (jt_tys cs) l yX9_hasRoutine wsX9_hasRoutine rm_X9_hasRoutine 0 0 [.ref (ad 1), .int a1] g0 (fun r g2 => Post r ∧ g2 = g0) := by
  refine jj_metI (cc := cX9_hasRoutine) (nL := 2) (ret := (some .boolean)) (by decide) rfl (Nat.le_of_ble_eq_true rfl) [(0, .ref (ad 1)), (1, .int a1)] rfl ?_
  intro p e s m args below meth c hC hnm
  rw [vc_X9_hasRoutine] at hV
  refine jj_iload_n (pc2 := 1) hC dX9_hasRoutine_0 rfl 1 rfl rfl ?_
  refine jj_if_lt (pc2 := 4) hC 16 dX9_hasRoutine_1 (by decide) rfl (fun h1 => ?_) (fun h1 => ?_)
  · have hV := hV.1 h1
    refine jj_iconst (pc2 := 17) hC 0 dX9_hasRoutine_16 (by decide) rfl ?_
    exact jj_zret hC jj_nb0 dX9_hasRoutine_17 ⟨hV, rfl⟩
  · have hV := hV.2 h1
    refine jj_iload_n (pc2 := 5) hC dX9_hasRoutine_4 rfl 1 rfl rfl ?_
    refine jj_aload_n (pc2 := 6) hC dX9_hasRoutine_5 rfl 0 rfl rfl ?_
    refine cg_T_routines (pc2 := 9) hC hi_X9_hasRoutine_X9 lk_X9_hasRoutine_1 dX9_hasRoutine_6 rfl ?_
    refine jj_icmp_ge (pc2 := 12) hC 16 dX9_hasRoutine_9 (by decide) rfl (fun h2 => ?_) (fun h2 => ?_)
    · have hV := hV.1 h2
      refine jj_iconst (pc2 := 17) hC 0 dX9_hasRoutine_16 (by decide) rfl ?_
      exact jj_zret hC jj_nb0 dX9_hasRoutine_17 ⟨hV, rfl⟩
    · have hV := hV.2 h2
      refine jj_iconst (pc2 := 13) hC 1 dX9_hasRoutine_12 (by decide) rfl ?_
      refine jj_goto hC 17 dX9_hasRoutine_13 (by decide) ?_
      exact jj_zret hC jj_nb1 dX9_hasRoutine_17 ⟨hV, rfl⟩
abbrev rm_X9_hasCell : Room := { frames := 1, cells := 0, slots := 0, locals := 21 }
def vc_X9_hasCell (a1 : Int32) (a2 : Int32) (g0 : cm_M) (Post : Int32 → Prop) : Prop := vc_X9_hasTable a1 g0 (fun (r1 : Int32) => ((r1 = 0) → (Post 0)) ∧ ((¬ r1 = 0) → (((a2 < 0) → (Post 0)) ∧ ((¬ a2 < 0) → (((8 ≤ a2) → (Post 0)) ∧ ((¬ 8 ≤ a2) → (Post 1)))))))
set_option maxHeartbeats 4000000 in
set_option maxRecDepth 100000 in
theorem kc_X9_hasCell (l : Launch) (D : va_G) (cs : Nat → ClassId) (Y X : va_W) (ad : Nat → Nat) (a1 : Int32) (a2 : Int32) (g0 : cm_M) (Post : Int32 → Prop) (hV : vc_X9_hasCell a1 a2 g0 Post) : JI (wc_d Y X cs ad) D vwCl (jt_tys cs) l yX9_hasCell wsX9_hasCell rm_X9_hasCell 0 0 [.ref (ad 1), .int a1, .int a2] g0 (fun r g2 => Post r ∧ g2 = g0) := by
  refine jj_metI (cc := cX9_hasCell) (nL := 3) (ret := (some .boolean)) (by decide) rfl (Nat.le_of_ble_eq_true rfl) [(0, .ref (ad 1)), (1, .int a1), (2, .int a2)] rfl ?_
  intro p e s m args below meth c hC hnm
  rw [vc_X9_hasCell] at hV
  refine jj_aload_n (pc2 := 1) hC dX9_hasCell_0 rfl 0 rfl rfl ?_
  refine jj_iload_n (pc2 := 2) hC dX9_hasCell_1 rfl 1 rfl rfl ?_
  refine jj_cVIp (pc2 := 5) (wd := wc_d Y X cs ad) (g := g0) (rest := []) hC (Y.length + 1) (jx_at (V := wc_W cs ad g0) rfl) rfl rfl (kc_X9_hasTable l D cs Y X ad a1 g0 _ hV) (cwV 1 hC.1.2.2.2.2 gX9_hasCell_X9_hasTable rfl rfl rfl (by decide +kernel) ⟨by decide, by decide⟩) rfl (Nat.le_of_ble_eq_true rfl) _ rfl dX9_hasCell_2 ⟨Nat.zero_le _, Nat.zero_le _⟩ rfl (fun r1 hV => ?_)
  refine jj_if_eq (pc2 := 8) hC 22 dX9_hasCell_5 (by decide) rfl (fun h2 => ?_) (fun h2 => ?_)
  · have hV := hV.1 h2
    refine jj_iconst (pc2 := 23) hC 0 dX9_hasCell_22 (by decide) rfl ?_
    exact jj_zret hC jj_nb0 dX9_hasCell_23 ⟨hV, rfl⟩
  · have hV := hV.2 h2
    refine jj_iload_n (pc2 := 9) hC dX9_hasCell_8 rfl 2 rfl rfl ?_
    refine jj_if_lt (pc2 := 12) hC 22 dX9_hasCell_9 (by decide) rfl (fun h3 => ?_) (fun h3 => ?_)
    · have hV := hV.1 h3
      refine jj_iconst (pc2 := 23) hC 0 dX9_hasCell_22 (by decide) rfl ?_
      exact jj_zret hC jj_nb0 dX9_hasCell_23 ⟨hV, rfl⟩
    · have hV := hV.2 h3
      refine jj_iload_n (pc2 := 13) hC dX9_hasCell_12 rfl 2 rfl rfl ?_
      refine jj_bipush (pc2 := 15) hC 8 dX9_hasCell_13 (by decide) rfl ?_
      refine jj_icmp_ge (pc2 := 18) hC 22 dX9_hasCell_15 (by decide) rfl (fun h4 => ?_) (fun h4 => ?_)
      · have hV := hV.1 h4
        refine jj_iconst (pc2 := 23) hC 0 dX9_hasCell_22 (by decide) rfl ?_
        exact jj_zret hC jj_nb0 dX9_hasCell_23 ⟨hV, rfl⟩
      · have hV := hV.2 h4
        refine jj_iconst (pc2 := 19) hC 1 dX9_hasCell_18 (by decide) rfl ?_
        refine jj_goto hC 23 dX9_hasCell_19 (by decide) ?_
        exact jj_zret hC jj_nb1 dX9_hasCell_23 ⟨hV, rfl⟩
abbrev rm_X9_hasTiePlace : Room := { frames := 1, cells := 0, slots := 0, locals := 21 }
def vc_X9_hasTiePlace (a1 : Int32) (a2 : Int32) (a3 : Int32) (g0 : cm_M) (Post : Int32 → Prop) : Prop := ((a1 < 0) → (Post 0)) ∧ ((¬ a1 < 0) → (((2 < a1) → (Post 0)) ∧ ((¬ 2 < a1) → (vc_X9_hasModule a2 g0 (fun (r3 : Int32) => ((¬ r3 = 0) → (((¬ a1 = 0) → (vc_X9_hasTable a3 g0 (fun (r6 : Int32) => (jj_nb r6) ∧ (Post r6)))) ∧ ((a1 = 0) → (vc_X9_hasModule a3 g0 (fun (r7 : Int32) => (jj_nb r7) ∧ (Post r7)))))) ∧ ((r3 = 0) → (Post 0)))))))
set_option maxHeartbeats 4000000 in
set_option maxRecDepth 100000 in
theorem kc_X9_hasTiePlace (l : Launch) (D : va_G) (cs : Nat → ClassId) (Y X : va_W) (ad : Nat → Nat) (a1 : Int32) (a2 : Int32) (a3 : Int32) (g0 : cm_M) (Post : Int32 → Prop) (hV : vc_X9_hasTiePlace a1 a2 a3 g0 Post) : JI (wc_d Y X cs ad) D vwCl (jt_tys cs) l yX9_hasTiePlace wsX9_hasTiePlace rm_X9_hasTiePlace 0 0 [.ref (ad 1), .int a1, .int a2, .int a3] g0 (fun r g2 => Post r ∧ g2 = g0) := by
  refine jj_metI (cc := cX9_hasTiePlace) (nL := 4) (ret := (some .boolean)) (by decide) rfl (Nat.le_of_ble_eq_true rfl) [(0, .ref (ad 1)), (1, .int a1), (2, .int a2), (3, .int a3)] rfl ?_
  intro p e s m args below meth c hC hnm
  rw [vc_X9_hasTiePlace] at hV
  refine jj_iload_n (pc2 := 1) hC dX9_hasTiePlace_0 rfl 1 rfl rfl ?_
  refine jj_if_lt (pc2 := 4) hC 17 dX9_hasTiePlace_1 (by decide) rfl (fun h1 => ?_) (fun h1 => ?_)
  · have hV := hV.1 h1
    refine jj_iconst (pc2 := 18) hC 0 dX9_hasTiePlace_17 (by decide) rfl ?_
    exact jj_zret hC jj_nb0 dX9_hasTiePlace_18 ⟨hV, rfl⟩
  · have hV := hV.2 h1
    refine jj_iload_n (pc2 := 5) hC dX9_hasTiePlace_4 rfl 1 rfl rfl ?_
    refine jj_iconst (pc2 := 6) hC 2 dX9_hasTiePlace_5 (by decide) rfl ?_
    refine jj_icmp_gt (pc2 := 9) hC 17 dX9_hasTiePlace_6 (by decide) rfl (fun h2 => ?_) (fun h2 => ?_)
    · have hV := hV.1 h2
      refine jj_iconst (pc2 := 18) hC 0 dX9_hasTiePlace_17 (by decide) rfl ?_
      exact jj_zret hC jj_nb0 dX9_hasTiePlace_18 ⟨hV, rfl⟩
    · have hV := hV.2 h2
      refine jj_aload_n (pc2 := 10) hC dX9_hasTiePlace_9 rfl 0 rfl rfl ?_
      refine jj_iload_n (pc2 := 11) hC dX9_hasTiePlace_10 rfl 2 rfl rfl ?_
      refine jj_cVIp (pc2 := 14) (wd := wc_d Y X cs ad) (g := g0) (rest := []) hC (Y.length + 1) (jx_at (V := wc_W cs ad g0) rfl) rfl rfl (kc_X9_hasModule l D cs Y X ad a2 g0 _ hV) (cwV 1 hC.1.2.2.2.2 gX9_hasTiePlace_X9_hasModule rfl rfl rfl (by decide +kernel) ⟨by decide, by decide⟩) rfl (Nat.le_of_ble_eq_true rfl) _ rfl dX9_hasTiePlace_11 ⟨Nat.zero_le _, Nat.zero_le _⟩ rfl (fun r3 hV => ?_)
      refine jj_if_ne (pc2 := 17) hC 19 dX9_hasTiePlace_14 (by decide) rfl (fun h4 => ?_) (fun h4 => ?_)
      · have hV := hV.1 h4
        refine jj_iload_n (pc2 := 20) hC dX9_hasTiePlace_19 rfl 1 rfl rfl ?_
        refine jj_if_ne (pc2 := 23) hC 31 dX9_hasTiePlace_20 (by decide) rfl (fun h5 => ?_) (fun h5 => ?_)
        · have hV := hV.1 h5
          refine jj_aload_n (pc2 := 32) hC dX9_hasTiePlace_31 rfl 0 rfl rfl ?_
          refine jj_iload_n (pc2 := 33) hC dX9_hasTiePlace_32 rfl 3 rfl rfl ?_
          refine jj_cVIp (pc2 := 36) (wd := wc_d Y X cs ad) (g := g0) (rest := []) hC (Y.length + 1) (jx_at (V := wc_W cs ad g0) rfl) rfl rfl (kc_X9_hasTable l D cs Y X ad a3 g0 _ hV) (cwV 1 hC.1.2.2.2.2 gX9_hasTiePlace_X9_hasTable rfl rfl rfl (by decide +kernel) ⟨by decide, by decide⟩) rfl (Nat.le_of_ble_eq_true rfl) _ rfl dX9_hasTiePlace_33 ⟨Nat.zero_le _, Nat.zero_le _⟩ rfl (fun r6 hV => ?_)
          exact jj_zret hC hV.1 dX9_hasTiePlace_36 ⟨hV.2, rfl⟩
        · have hV := hV.2 h5
          refine jj_aload_n (pc2 := 24) hC dX9_hasTiePlace_23 rfl 0 rfl rfl ?_
          refine jj_iload_n (pc2 := 25) hC dX9_hasTiePlace_24 rfl 3 rfl rfl ?_
          refine jj_cVIp (pc2 := 28) (wd := wc_d Y X cs ad) (g := g0) (rest := []) hC (Y.length + 1) (jx_at (V := wc_W cs ad g0) rfl) rfl rfl (kc_X9_hasModule l D cs Y X ad a3 g0 _ hV) (cwV 1 hC.1.2.2.2.2 gX9_hasTiePlace_X9_hasModule rfl rfl rfl (by decide +kernel) ⟨by decide, by decide⟩) rfl (Nat.le_of_ble_eq_true rfl) _ rfl dX9_hasTiePlace_25 ⟨Nat.zero_le _, Nat.zero_le _⟩ rfl (fun r7 hV => ?_)
          refine jj_goto hC 36 dX9_hasTiePlace_28 (by decide) ?_
          exact jj_zret hC hV.1 dX9_hasTiePlace_36 ⟨hV.2, rfl⟩
      · have hV := hV.2 h4
        refine jj_iconst (pc2 := 18) hC 0 dX9_hasTiePlace_17 (by decide) rfl ?_
        exact jj_zret hC jj_nb0 dX9_hasTiePlace_18 ⟨hV, rfl⟩
abbrev rm_X9_isLine : Room := { frames := 2, cells := 0, slots := 0, locals := 43 }
def vc_X9_isLine (a1 : Int32) (a2 : Int32) (a3 : Int32) (g0 : cm_M) (Post : Int32 → Prop) : Prop := ((a1.toInt < 0 ∨ 8 < a1.toInt) → (Post 0)) ∧ (a1 = 0 → (((a2 < (-999)) → (Post 0)) ∧ ((¬ a2 < (-999)) → (((999 < a2) → (Post 0)) ∧ ((¬ 999 < a2) → (((¬ a3 = 0) → (Post 0)) ∧ ((a3 = 0) → (Post 1)))))))) ∧ (a1 = 1 → (((a2 < (-999)) → (Post 0)) ∧ ((¬ a2 < (-999)) → (((999 < a2) → (Post 0)) ∧ ((¬ 999 < a2) → (((¬ a3 = 0) → (Post 0)) ∧ ((a3 = 0) → (Post 1)))))))) ∧ (a1 = 2 → (vc_X9_hasCell a2 a3 g0 (fun (r8 : Int32) => (jj_nb r8) ∧ (Post r8)))) ∧ (a1 = 3 → (vc_X9_hasCell a2 a3 g0 (fun (r9 : Int32) => (jj_nb r9) ∧ (Post r9)))) ∧ (a1 = 4 → (vc_X9_hasRoutine a2 g0 (fun (r10 : Int32) => ((r10 = 0) → (Post 0)) ∧ ((¬ r10 = 0) → (((¬ a3 = 0) → (Post 0)) ∧ ((a3 = 0) → (Post 1))))))) ∧ (a1 = 5 → (((a2 < 1) → (Post 0)) ∧ ((¬ a2 < 1) → (((16 ≤ a2) → (Post 0)) ∧ ((¬ 16 ≤ a2) → (((¬ a3 = 0) → (Post 0)) ∧ ((a3 = 0) → (Post 1)))))))) ∧ (a1 = 6 → (((¬ a2 = 0) → (Post 0)) ∧ ((a2 = 0) → (((¬ a3 = 0) → (Post 0)) ∧ ((a3 = 0) → (Post 1)))))) ∧ (a1 = 7 → (vc_X9_hasCell a2 a3 g0 (fun (r18 : Int32) => (jj_nb r18) ∧ (Post r18)))) ∧ (a1 = 8 → (vc_X9_hasCell a2 a3 g0 (fun (r19 : Int32) => (jj_nb r19) ∧ (Post r19))))
set_option maxHeartbeats 4000000 in
set_option maxRecDepth 100000 in
theorem kc_X9_isLine (l : Launch) (D : va_G) (cs : Nat → ClassId) (Y X : va_W) (ad : Nat → Nat) (a1 : Int32) (a2 : Int32) (a3 : Int32) (g0 : cm_M) (Post : Int32 → Prop) (hV : vc_X9_isLine a1 a2 a3 g0 Post) : JI (wc_d Y X cs ad) D vwCl (jt_tys cs) l yX9_isLine wsX9_isLine rm_X9_isLine 0 0 [.ref (ad 1), .int a1, .int a2, .int a3] g0 (fun r g2 => Post r ∧ g2 = g0) := by
  refine jj_metI (cc := cX9_isLine) (nL := 4) (ret := (some .boolean)) (by decide) rfl (Nat.le_of_ble_eq_true rfl) [(0, .ref (ad 1)), (1, .int a1), (2, .int a2), (3, .int a3)] rfl ?_
  intro p e s m args below meth c hC hnm
  rw [vc_X9_isLine] at hV
  refine jj_iload_n (pc2 := 1) hC dX9_isLine_0 rfl 1 rfl rfl ?_
  by_cases h1 : a1.toInt < 0 ∨ 8 < a1.toInt
  · have hV := hV.1 h1
    refine jj_tabOut hC 136 dX9_isLine_1 h1 (by decide) ?_
    refine jj_iconst (pc2 := 137) hC 0 dX9_isLine_136 (by decide) rfl ?_
    exact jj_zret hC jj_nb0 dX9_isLine_137 ⟨hV, rfl⟩
  have hV := hV.2
  rcases jj_sw_0_8 a1 h1 with hs | hs | hs | hs | hs | hs | hs | hs | hs
  · have hV := hV.1 hs
    refine jj_tabIn (off := 51) hC 52 dX9_isLine_1 (fun q => h1 (Or.inl q)) (fun q => h1 (Or.inr q)) (by rw [hs]; decide) (by decide) ?_
    refine jj_iload_n (pc2 := 53) hC dX9_isLine_52 rfl 2 rfl rfl ?_
    refine jj_sipush (pc2 := 56) hC (-999) dX9_isLine_53 (by decide) rfl ?_
    refine jj_icmp_lt (pc2 := 59) hC 74 dX9_isLine_56 (by decide) rfl (fun h2 => ?_) (fun h2 => ?_)
    · have hV := hV.1 h2
      refine jj_iconst (pc2 := 75) hC 0 dX9_isLine_74 (by decide) rfl ?_
      exact jj_zret hC jj_nb0 dX9_isLine_75 ⟨hV, rfl⟩
    · have hV := hV.2 h2
      refine jj_iload_n (pc2 := 60) hC dX9_isLine_59 rfl 2 rfl rfl ?_
      refine jj_sipush (pc2 := 63) hC 999 dX9_isLine_60 (by decide) rfl ?_
      refine jj_icmp_gt (pc2 := 66) hC 74 dX9_isLine_63 (by decide) rfl (fun h3 => ?_) (fun h3 => ?_)
      · have hV := hV.1 h3
        refine jj_iconst (pc2 := 75) hC 0 dX9_isLine_74 (by decide) rfl ?_
        exact jj_zret hC jj_nb0 dX9_isLine_75 ⟨hV, rfl⟩
      · have hV := hV.2 h3
        refine jj_iload_n (pc2 := 67) hC dX9_isLine_66 rfl 3 rfl rfl ?_
        refine jj_if_ne (pc2 := 70) hC 74 dX9_isLine_67 (by decide) rfl (fun h4 => ?_) (fun h4 => ?_)
        · have hV := hV.1 h4
          refine jj_iconst (pc2 := 75) hC 0 dX9_isLine_74 (by decide) rfl ?_
          exact jj_zret hC jj_nb0 dX9_isLine_75 ⟨hV, rfl⟩
        · have hV := hV.2 h4
          refine jj_iconst (pc2 := 71) hC 1 dX9_isLine_70 (by decide) rfl ?_
          refine jj_goto hC 75 dX9_isLine_71 (by decide) ?_
          exact jj_zret hC jj_nb1 dX9_isLine_75 ⟨hV, rfl⟩
  · have hV := hV.2.1 hs
    refine jj_tabIn (off := 51) hC 52 dX9_isLine_1 (fun q => h1 (Or.inl q)) (fun q => h1 (Or.inr q)) (by rw [hs]; decide) (by decide) ?_
    refine jj_iload_n (pc2 := 53) hC dX9_isLine_52 rfl 2 rfl rfl ?_
    refine jj_sipush (pc2 := 56) hC (-999) dX9_isLine_53 (by decide) rfl ?_
    refine jj_icmp_lt (pc2 := 59) hC 74 dX9_isLine_56 (by decide) rfl (fun h5 => ?_) (fun h5 => ?_)
    · have hV := hV.1 h5
      refine jj_iconst (pc2 := 75) hC 0 dX9_isLine_74 (by decide) rfl ?_
      exact jj_zret hC jj_nb0 dX9_isLine_75 ⟨hV, rfl⟩
    · have hV := hV.2 h5
      refine jj_iload_n (pc2 := 60) hC dX9_isLine_59 rfl 2 rfl rfl ?_
      refine jj_sipush (pc2 := 63) hC 999 dX9_isLine_60 (by decide) rfl ?_
      refine jj_icmp_gt (pc2 := 66) hC 74 dX9_isLine_63 (by decide) rfl (fun h6 => ?_) (fun h6 => ?_)
      · have hV := hV.1 h6
        refine jj_iconst (pc2 := 75) hC 0 dX9_isLine_74 (by decide) rfl ?_
        exact jj_zret hC jj_nb0 dX9_isLine_75 ⟨hV, rfl⟩
      · have hV := hV.2 h6
        refine jj_iload_n (pc2 := 67) hC dX9_isLine_66 rfl 3 rfl rfl ?_
        refine jj_if_ne (pc2 := 70) hC 74 dX9_isLine_67 (by decide) rfl (fun h7 => ?_) (fun h7 => ?_)
        · have hV := hV.1 h7
          refine jj_iconst (pc2 := 75) hC 0 dX9_isLine_74 (by decide) rfl ?_
          exact jj_zret hC jj_nb0 dX9_isLine_75 ⟨hV, rfl⟩
        · have hV := hV.2 h7
          refine jj_iconst (pc2 := 71) hC 1 dX9_isLine_70 (by decide) rfl ?_
          refine jj_goto hC 75 dX9_isLine_71 (by decide) ?_
          exact jj_zret hC jj_nb1 dX9_isLine_75 ⟨hV, rfl⟩
  · have hV := hV.2.2.1 hs
    refine jj_tabIn (off := 75) hC 76 dX9_isLine_1 (fun q => h1 (Or.inl q)) (fun q => h1 (Or.inr q)) (by rw [hs]; decide) (by decide) ?_
    refine jj_aload_n (pc2 := 77) hC dX9_isLine_76 rfl 0 rfl rfl ?_
    refine jj_iload_n (pc2 := 78) hC dX9_isLine_77 rfl 2 rfl rfl ?_
    refine jj_iload_n (pc2 := 79) hC dX9_isLine_78 rfl 3 rfl rfl ?_
    refine jj_cVIp (pc2 := 82) (wd := wc_d Y X cs ad) (g := g0) (rest := []) hC (Y.length + 1) (jx_at (V := wc_W cs ad g0) rfl) rfl rfl (kc_X9_hasCell l D cs Y X ad a2 a3 g0 _ hV) (cwV 2 hC.1.2.2.2.2 gX9_isLine_X9_hasCell rfl rfl rfl (by decide +kernel) ⟨by decide, by decide⟩) rfl (Nat.le_of_ble_eq_true rfl) _ rfl dX9_isLine_79 ⟨Nat.zero_le _, Nat.zero_le _⟩ rfl (fun r8 hV => ?_)
    exact jj_zret hC hV.1 dX9_isLine_82 ⟨hV.2, rfl⟩
  · have hV := hV.2.2.2.1 hs
    refine jj_tabIn (off := 75) hC 76 dX9_isLine_1 (fun q => h1 (Or.inl q)) (fun q => h1 (Or.inr q)) (by rw [hs]; decide) (by decide) ?_
    refine jj_aload_n (pc2 := 77) hC dX9_isLine_76 rfl 0 rfl rfl ?_
    refine jj_iload_n (pc2 := 78) hC dX9_isLine_77 rfl 2 rfl rfl ?_
    refine jj_iload_n (pc2 := 79) hC dX9_isLine_78 rfl 3 rfl rfl ?_
    refine jj_cVIp (pc2 := 82) (wd := wc_d Y X cs ad) (g := g0) (rest := []) hC (Y.length + 1) (jx_at (V := wc_W cs ad g0) rfl) rfl rfl (kc_X9_hasCell l D cs Y X ad a2 a3 g0 _ hV) (cwV 2 hC.1.2.2.2.2 gX9_isLine_X9_hasCell rfl rfl rfl (by decide +kernel) ⟨by decide, by decide⟩) rfl (Nat.le_of_ble_eq_true rfl) _ rfl dX9_isLine_79 ⟨Nat.zero_le _, Nat.zero_le _⟩ rfl (fun r9 hV => ?_)
    exact jj_zret hC hV.1 dX9_isLine_82 ⟨hV.2, rfl⟩
  · have hV := hV.2.2.2.2.1 hs
    refine jj_tabIn (off := 82) hC 83 dX9_isLine_1 (fun q => h1 (Or.inl q)) (fun q => h1 (Or.inr q)) (by rw [hs]; decide) (by decide) ?_
    refine jj_aload_n (pc2 := 84) hC dX9_isLine_83 rfl 0 rfl rfl ?_
    refine jj_iload_n (pc2 := 85) hC dX9_isLine_84 rfl 2 rfl rfl ?_
    refine jj_cVIp (pc2 := 88) (wd := wc_d Y X cs ad) (g := g0) (rest := []) hC (Y.length + 1) (jx_at (V := wc_W cs ad g0) rfl) rfl rfl (kc_X9_hasRoutine l D cs Y X ad a2 g0 _ hV) (cwV 1 hC.1.2.2.2.2 gX9_isLine_X9_hasRoutine rfl rfl rfl (by decide +kernel) ⟨by decide, by decide⟩) rfl (Nat.le_of_ble_eq_true rfl) _ rfl dX9_isLine_85 ⟨Nat.zero_le _, Nat.zero_le _⟩ rfl (fun r10 hV => ?_)
    refine jj_if_eq (pc2 := 91) hC 99 dX9_isLine_88 (by decide) rfl (fun h11 => ?_) (fun h11 => ?_)
    · have hV := hV.1 h11
      refine jj_iconst (pc2 := 100) hC 0 dX9_isLine_99 (by decide) rfl ?_
      exact jj_zret hC jj_nb0 dX9_isLine_100 ⟨hV, rfl⟩
    · have hV := hV.2 h11
      refine jj_iload_n (pc2 := 92) hC dX9_isLine_91 rfl 3 rfl rfl ?_
      refine jj_if_ne (pc2 := 95) hC 99 dX9_isLine_92 (by decide) rfl (fun h12 => ?_) (fun h12 => ?_)
      · have hV := hV.1 h12
        refine jj_iconst (pc2 := 100) hC 0 dX9_isLine_99 (by decide) rfl ?_
        exact jj_zret hC jj_nb0 dX9_isLine_100 ⟨hV, rfl⟩
      · have hV := hV.2 h12
        refine jj_iconst (pc2 := 96) hC 1 dX9_isLine_95 (by decide) rfl ?_
        refine jj_goto hC 100 dX9_isLine_96 (by decide) ?_
        exact jj_zret hC jj_nb1 dX9_isLine_100 ⟨hV, rfl⟩
  · have hV := hV.2.2.2.2.2.1 hs
    refine jj_tabIn (off := 100) hC 101 dX9_isLine_1 (fun q => h1 (Or.inl q)) (fun q => h1 (Or.inr q)) (by rw [hs]; decide) (by decide) ?_
    refine jj_iload_n (pc2 := 102) hC dX9_isLine_101 rfl 2 rfl rfl ?_
    refine jj_iconst (pc2 := 103) hC 1 dX9_isLine_102 (by decide) rfl ?_
    refine jj_icmp_lt (pc2 := 106) hC 120 dX9_isLine_103 (by decide) rfl (fun h13 => ?_) (fun h13 => ?_)
    · have hV := hV.1 h13
      refine jj_iconst (pc2 := 121) hC 0 dX9_isLine_120 (by decide) rfl ?_
      exact jj_zret hC jj_nb0 dX9_isLine_121 ⟨hV, rfl⟩
    · have hV := hV.2 h13
      refine jj_iload_n (pc2 := 107) hC dX9_isLine_106 rfl 2 rfl rfl ?_
      refine jj_bipush (pc2 := 109) hC 16 dX9_isLine_107 (by decide) rfl ?_
      refine jj_icmp_ge (pc2 := 112) hC 120 dX9_isLine_109 (by decide) rfl (fun h14 => ?_) (fun h14 => ?_)
      · have hV := hV.1 h14
        refine jj_iconst (pc2 := 121) hC 0 dX9_isLine_120 (by decide) rfl ?_
        exact jj_zret hC jj_nb0 dX9_isLine_121 ⟨hV, rfl⟩
      · have hV := hV.2 h14
        refine jj_iload_n (pc2 := 113) hC dX9_isLine_112 rfl 3 rfl rfl ?_
        refine jj_if_ne (pc2 := 116) hC 120 dX9_isLine_113 (by decide) rfl (fun h15 => ?_) (fun h15 => ?_)
        · have hV := hV.1 h15
          refine jj_iconst (pc2 := 121) hC 0 dX9_isLine_120 (by decide) rfl ?_
          exact jj_zret hC jj_nb0 dX9_isLine_121 ⟨hV, rfl⟩
        · have hV := hV.2 h15
          refine jj_iconst (pc2 := 117) hC 1 dX9_isLine_116 (by decide) rfl ?_
          refine jj_goto hC 121 dX9_isLine_117 (by decide) ?_
          exact jj_zret hC jj_nb1 dX9_isLine_121 ⟨hV, rfl⟩
  · have hV := hV.2.2.2.2.2.2.1 hs
    refine jj_tabIn (off := 121) hC 122 dX9_isLine_1 (fun q => h1 (Or.inl q)) (fun q => h1 (Or.inr q)) (by rw [hs]; decide) (by decide) ?_
    refine jj_iload_n (pc2 := 123) hC dX9_isLine_122 rfl 2 rfl rfl ?_
    refine jj_if_ne (pc2 := 126) hC 134 dX9_isLine_123 (by decide) rfl (fun h16 => ?_) (fun h16 => ?_)
    · have hV := hV.1 h16
      refine jj_iconst (pc2 := 135) hC 0 dX9_isLine_134 (by decide) rfl ?_
      exact jj_zret hC jj_nb0 dX9_isLine_135 ⟨hV, rfl⟩
    · have hV := hV.2 h16
      refine jj_iload_n (pc2 := 127) hC dX9_isLine_126 rfl 3 rfl rfl ?_
      refine jj_if_ne (pc2 := 130) hC 134 dX9_isLine_127 (by decide) rfl (fun h17 => ?_) (fun h17 => ?_)
      · have hV := hV.1 h17
        refine jj_iconst (pc2 := 135) hC 0 dX9_isLine_134 (by decide) rfl ?_
        exact jj_zret hC jj_nb0 dX9_isLine_135 ⟨hV, rfl⟩
      · have hV := hV.2 h17
        refine jj_iconst (pc2 := 131) hC 1 dX9_isLine_130 (by decide) rfl ?_
        refine jj_goto hC 135 dX9_isLine_131 (by decide) ?_
        exact jj_zret hC jj_nb1 dX9_isLine_135 ⟨hV, rfl⟩
  · have hV := hV.2.2.2.2.2.2.2.1 hs
    refine jj_tabIn (off := 75) hC 76 dX9_isLine_1 (fun q => h1 (Or.inl q)) (fun q => h1 (Or.inr q)) (by rw [hs]; decide) (by decide) ?_
    refine jj_aload_n (pc2 := 77) hC dX9_isLine_76 rfl 0 rfl rfl ?_
    refine jj_iload_n (pc2 := 78) hC dX9_isLine_77 rfl 2 rfl rfl ?_
    refine jj_iload_n (pc2 := 79) hC dX9_isLine_78 rfl 3 rfl rfl ?_
    refine jj_cVIp (pc2 := 82) (wd := wc_d Y X cs ad) (g := g0) (rest := []) hC (Y.length + 1) (jx_at (V := wc_W cs ad g0) rfl) rfl rfl (kc_X9_hasCell l D cs Y X ad a2 a3 g0 _ hV) (cwV 2 hC.1.2.2.2.2 gX9_isLine_X9_hasCell rfl rfl rfl (by decide +kernel) ⟨by decide, by decide⟩) rfl (Nat.le_of_ble_eq_true rfl) _ rfl dX9_isLine_79 ⟨Nat.zero_le _, Nat.zero_le _⟩ rfl (fun r18 hV => ?_)
    exact jj_zret hC hV.1 dX9_isLine_82 ⟨hV.2, rfl⟩
  · have hV := hV.2.2.2.2.2.2.2.2 hs
    refine jj_tabIn (off := 75) hC 76 dX9_isLine_1 (fun q => h1 (Or.inl q)) (fun q => h1 (Or.inr q)) (by rw [hs]; decide) (by decide) ?_
    refine jj_aload_n (pc2 := 77) hC dX9_isLine_76 rfl 0 rfl rfl ?_
    refine jj_iload_n (pc2 := 78) hC dX9_isLine_77 rfl 2 rfl rfl ?_
    refine jj_iload_n (pc2 := 79) hC dX9_isLine_78 rfl 3 rfl rfl ?_
    refine jj_cVIp (pc2 := 82) (wd := wc_d Y X cs ad) (g := g0) (rest := []) hC (Y.length + 1) (jx_at (V := wc_W cs ad g0) rfl) rfl rfl (kc_X9_hasCell l D cs Y X ad a2 a3 g0 _ hV) (cwV 2 hC.1.2.2.2.2 gX9_isLine_X9_hasCell rfl rfl rfl (by decide +kernel) ⟨by decide, by decide⟩) rfl (Nat.le_of_ble_eq_true rfl) _ rfl dX9_isLine_79 ⟨Nat.zero_le _, Nat.zero_le _⟩ rfl (fun r19 hV => ?_)
    exact jj_zret hC hV.1 dX9_isLine_82 ⟨hV.2, rfl⟩
theorem hi_X9_addModule_X9 : ∀ w ∈ u_ws RX9 TX9 11, w ∈ wsX9_addModule := fun _ h => List.mem_cons_of_mem _ (List.mem_append_right _ h)
theorem lk_X9_addModule_2 : Cond.fieldLink RX9 36 "PartedHouse$Text" "modules" "I" ∈ wsX9_addModule := List.mem_of_getElem? (i := 2) rfl
theorem lk_X9_addModule_1 : Cond.fieldLink RX9 9 "PartedHouse$Text" "sizes" "[I" ∈ wsX9_addModule := List.mem_of_getElem? (i := 1) rfl
abbrev rm_X9_addModule : Room := { frames := 0, cells := 0, slots := 0, locals := 0 }
def vc_X9_addModule (a1 : Int32) (g0 : cm_M) (Post : Int32 → cm_M → Prop) : Prop := (vp_in (g0.2.2 12 0) 10) ∧ (∀ g1 : cm_M, g1 = cm_a g0 4 (g0.2.2 12 0) a1 → (∀ g2 : cm_M, g2 = cm_s g1 12 ((g1.2.2 12 0) + 1) → (Post (g1.2.2 12 0) g2)))
set_option maxHeartbeats 4000000 in
set_option maxRecDepth 100000 in
theorem kc_X9_addModule (l : Launch) (D : va_G) (cs : Nat → ClassId) (Y X : va_W) (ad : Nat → Nat) (a1 : Int32) (g0 : cm_M) (Post : Int32 → cm_M → Prop) (hV : vc_X9_addModule a1 g0 Post) : JI (wc_d Y X cs ad) D vwCl (jt_tys cs) l yX9_addModule wsX9_addModule rm_X9_addModule 0 0 [.ref (ad 1), .int a1] g0 Post := by
  refine jj_metI (cc := cX9_addModule) (nL := 2) (ret := (some .int)) (by decide) rfl (Nat.le_of_ble_eq_true rfl) [(0, .ref (ad 1)), (1, .int a1)] rfl ?_
  intro p e s m args below meth c hC hnm
  rw [vc_X9_addModule] at hV
  refine jj_aload_n (pc2 := 1) hC dX9_addModule_0 rfl 0 rfl rfl ?_
  refine cg_T_sizes (pc2 := 4) hC hi_X9_addModule_X9 lk_X9_addModule_1 dX9_addModule_1 rfl ?_
  refine jj_aload_n (pc2 := 5) hC dX9_addModule_4 rfl 0 rfl rfl ?_
  refine cg_T_modules (pc2 := 8) hC hi_X9_addModule_X9 lk_X9_addModule_2 dX9_addModule_5 rfl ?_
  refine jj_iload_n (pc2 := 9) hC dX9_addModule_8 rfl 1 rfl rfl ?_
  refine ct_T_sizes (pc2 := 10) hC hV.1 dX9_addModule_9 rfl (fun g1 eg1 => ?_)
  have hV := hV.2 g1 eg1
  refine jj_aload_n (pc2 := 11) hC dX9_addModule_10 rfl 0 rfl rfl ?_
  refine jj_dup (pc2 := 12) hC dX9_addModule_11 rfl rfl ?_
  refine cg_T_modules (pc2 := 15) hC hi_X9_addModule_X9 lk_X9_addModule_2 dX9_addModule_12 rfl ?_
  refine jj_dup_x1 (pc2 := 16) hC dX9_addModule_15 rfl rfl rfl ?_
  refine jj_iconst (pc2 := 17) hC 1 dX9_addModule_16 (by decide) rfl ?_
  refine jj_iadd (pc2 := 18) hC dX9_addModule_17 rfl ?_
  refine cp_T_modules (pc2 := 21) hC hi_X9_addModule_X9 lk_X9_addModule_2 dX9_addModule_18 rfl (fun g2 eg2 => ?_)
  have hV := hV g2 eg2
  exact jj_iret hC dX9_addModule_21 hV
theorem hi_X9_addTable_X9 : ∀ w ∈ u_ws RX9 TX9 11, w ∈ wsX9_addTable := fun _ h => List.mem_cons_of_mem _ (List.mem_append_right _ h)
theorem lk_X9_addTable_2 : Cond.fieldLink RX9 40 "PartedHouse$Text" "tables" "I" ∈ wsX9_addTable := List.mem_of_getElem? (i := 2) rfl
theorem lk_X9_addTable_1 : Cond.fieldLink RX9 15 "PartedHouse$Text" "homes" "[I" ∈ wsX9_addTable := List.mem_of_getElem? (i := 1) rfl
abbrev rm_X9_addTable : Room := { frames := 0, cells := 0, slots := 0, locals := 0 }
def vc_X9_addTable (a1 : Int32) (g0 : cm_M) (Post : Int32 → cm_M → Prop) : Prop := (vp_in (g0.2.2 13 0) 16) ∧ (∀ g1 : cm_M, g1 = cm_a g0 5 (g0.2.2 13 0) a1 → (∀ g2 : cm_M, g2 = cm_s g1 13 ((g1.2.2 13 0) + 1) → (Post (g1.2.2 13 0) g2)))
set_option maxHeartbeats 4000000 in
set_option maxRecDepth 100000 in
theorem kc_X9_addTable (l : Launch) (D : va_G) (cs : Nat → ClassId) (Y X : va_W) (ad : Nat → Nat) (a1 : Int32) (g0 : cm_M) (Post : Int32 → cm_M → Prop) (hV : vc_X9_addTable a1 g0 Post) : JI (wc_d Y X cs ad) D vwCl (jt_tys cs) l yX9_addTable wsX9_addTable rm_X9_addTable 0 0 [.ref (ad 1), .int a1] g0 Post := by
  refine jj_metI (cc := cX9_addTable) (nL := 2) (ret := (some .int)) (by decide) rfl (Nat.le_of_ble_eq_true rfl) [(0, .ref (ad 1)), (1, .int a1)] rfl ?_
  intro p e s m args below meth c hC hnm
  rw [vc_X9_addTable] at hV
  refine jj_aload_n (pc2 := 1) hC dX9_addTable_0 rfl 0 rfl rfl ?_
  refine cg_T_homes (pc2 := 4) hC hi_X9_addTable_X9 lk_X9_addTable_1 dX9_addTable_1 rfl ?_
  refine jj_aload_n (pc2 := 5) hC dX9_addTable_4 rfl 0 rfl rfl ?_
  refine cg_T_tables (pc2 := 8) hC hi_X9_addTable_X9 lk_X9_addTable_2 dX9_addTable_5 rfl ?_
  refine jj_iload_n (pc2 := 9) hC dX9_addTable_8 rfl 1 rfl rfl ?_
  refine ct_T_homes (pc2 := 10) hC hV.1 dX9_addTable_9 rfl (fun g1 eg1 => ?_)
  have hV := hV.2 g1 eg1
  refine jj_aload_n (pc2 := 11) hC dX9_addTable_10 rfl 0 rfl rfl ?_
  refine jj_dup (pc2 := 12) hC dX9_addTable_11 rfl rfl ?_
  refine cg_T_tables (pc2 := 15) hC hi_X9_addTable_X9 lk_X9_addTable_2 dX9_addTable_12 rfl ?_
  refine jj_dup_x1 (pc2 := 16) hC dX9_addTable_15 rfl rfl rfl ?_
  refine jj_iconst (pc2 := 17) hC 1 dX9_addTable_16 (by decide) rfl ?_
  refine jj_iadd (pc2 := 18) hC dX9_addTable_17 rfl ?_
  refine cp_T_tables (pc2 := 21) hC hi_X9_addTable_X9 lk_X9_addTable_2 dX9_addTable_18 rfl (fun g2 eg2 => ?_)
  have hV := hV g2 eg2
  exact jj_iret hC dX9_addTable_21 hV
theorem hi_X9_addRoutine_X9 : ∀ w ∈ u_ws RX9 TX9 11, w ∈ wsX9_addRoutine := fun _ h => List.mem_cons_of_mem _ (List.mem_append_right _ h)
theorem lk_X9_addRoutine_2 : Cond.fieldLink RX9 43 "PartedHouse$Text" "routines" "I" ∈ wsX9_addRoutine := List.mem_of_getElem? (i := 2) rfl
theorem lk_X9_addRoutine_1 : Cond.fieldLink RX9 18 "PartedHouse$Text" "owners" "[I" ∈ wsX9_addRoutine := List.mem_of_getElem? (i := 1) rfl
abbrev rm_X9_addRoutine : Room := { frames := 0, cells := 0, slots := 0, locals := 0 }
def vc_X9_addRoutine (a1 : Int32) (g0 : cm_M) (Post : Int32 → cm_M → Prop) : Prop := (vp_in (g0.2.2 14 0) 40) ∧ (∀ g1 : cm_M, g1 = cm_a g0 6 (g0.2.2 14 0) a1 → (∀ g2 : cm_M, g2 = cm_s g1 14 ((g1.2.2 14 0) + 1) → (Post (g1.2.2 14 0) g2)))
set_option maxHeartbeats 4000000 in
set_option maxRecDepth 100000 in
theorem kc_X9_addRoutine (l : Launch) (D : va_G) (cs : Nat → ClassId) (Y X : va_W) (ad : Nat → Nat) (a1 : Int32) (g0 : cm_M) (Post : Int32 → cm_M → Prop) (hV : vc_X9_addRoutine a1 g0 Post) : JI (wc_d Y X cs ad) D vwCl (jt_tys cs) l yX9_addRoutine wsX9_addRoutine rm_X9_addRoutine 0 0 [.ref (ad 1), .int a1] g0 Post := by
  refine jj_metI (cc := cX9_addRoutine) (nL := 2) (ret := (some .int)) (by decide) rfl (Nat.le_of_ble_eq_true rfl) [(0, .ref (ad 1)), (1, .int a1)] rfl ?_
  intro p e s m args below meth c hC hnm
  rw [vc_X9_addRoutine] at hV
  refine jj_aload_n (pc2 := 1) hC dX9_addRoutine_0 rfl 0 rfl rfl ?_
  refine cg_T_owners (pc2 := 4) hC hi_X9_addRoutine_X9 lk_X9_addRoutine_1 dX9_addRoutine_1 rfl ?_
  refine jj_aload_n (pc2 := 5) hC dX9_addRoutine_4 rfl 0 rfl rfl ?_
  refine cg_T_routines (pc2 := 8) hC hi_X9_addRoutine_X9 lk_X9_addRoutine_2 dX9_addRoutine_5 rfl ?_
  refine jj_iload_n (pc2 := 9) hC dX9_addRoutine_8 rfl 1 rfl rfl ?_
  refine ct_T_owners (pc2 := 10) hC hV.1 dX9_addRoutine_9 rfl (fun g1 eg1 => ?_)
  have hV := hV.2 g1 eg1
  refine jj_aload_n (pc2 := 11) hC dX9_addRoutine_10 rfl 0 rfl rfl ?_
  refine jj_dup (pc2 := 12) hC dX9_addRoutine_11 rfl rfl ?_
  refine cg_T_routines (pc2 := 15) hC hi_X9_addRoutine_X9 lk_X9_addRoutine_2 dX9_addRoutine_12 rfl ?_
  refine jj_dup_x1 (pc2 := 16) hC dX9_addRoutine_15 rfl rfl rfl ?_
  refine jj_iconst (pc2 := 17) hC 1 dX9_addRoutine_16 (by decide) rfl ?_
  refine jj_iadd (pc2 := 18) hC dX9_addRoutine_17 rfl ?_
  refine cp_T_routines (pc2 := 21) hC hi_X9_addRoutine_X9 lk_X9_addRoutine_2 dX9_addRoutine_18 rfl (fun g2 eg2 => ?_)
  have hV := hV g2 eg2
  exact jj_iret hC dX9_addRoutine_21 hV
theorem hi_X9_addToTie_X9 : ∀ w ∈ u_ws RX9 TX9 11, w ∈ wsX9_addToTie := fun _ h => List.mem_cons_of_mem _ (List.mem_append_right _ h)
theorem lk_X9_addToTie_1 : Cond.fieldLink RX9 33 "PartedHouse$Text" "ties" "[I" ∈ wsX9_addToTie := List.mem_of_getElem? (i := 1) rfl
abbrev rm_X9_addToTie : Room := { frames := 0, cells := 0, slots := 0, locals := 0 }
def vc_X9_addToTie (a1 : Int32) (a2 : Int32) (g0 : cm_M) (Post : cm_M → Prop) : Prop := ((a1 = (-1)) → (Post g0)) ∧ ((¬ a1 = (-1)) → ((vp_in a1 420) ∧ ((vp_in a1 420) ∧ (∀ g2 : cm_M, g2 = cm_a g0 11 a1 ((g0.2.2 11 a1.toNatClampNeg) + a2) → (Post g2)))))
set_option maxHeartbeats 4000000 in
set_option maxRecDepth 100000 in
theorem kc_X9_addToTie (l : Launch) (D : va_G) (cs : Nat → ClassId) (Y X : va_W) (ad : Nat → Nat) (a1 : Int32) (a2 : Int32) (g0 : cm_M) (Post : cm_M → Prop) (hV : vc_X9_addToTie a1 a2 g0 Post) : JV (wc_d Y X cs ad) D vwCl (jt_tys cs) l yX9_addToTie wsX9_addToTie rm_X9_addToTie 0 0 [.ref (ad 1), .int a1, .int a2] g0 Post := by
  refine jj_metV (cc := cX9_addToTie) (nL := 3) (ret := none) (by decide) rfl (Nat.le_of_ble_eq_true rfl) [(0, .ref (ad 1)), (1, .int a1), (2, .int a2)] rfl ?_
  intro p e s m args below meth c hC hnm
  rw [vc_X9_addToTie] at hV
  refine jj_iload_n (pc2 := 1) hC dX9_addToTie_0 rfl 1 rfl rfl ?_
  refine jj_iconst (pc2 := 2) hC (-1) dX9_addToTie_1 (by decide) rfl ?_
  refine jj_icmp_eq (pc2 := 5) hC 15 dX9_addToTie_2 (by decide) rfl (fun h1 => ?_) (fun h1 => ?_)
  · have hV := hV.1 h1
    exact jj_vret hC dX9_addToTie_15 hV
  · have hV := hV.2 h1
    refine jj_aload_n (pc2 := 6) hC dX9_addToTie_5 rfl 0 rfl rfl ?_
    refine cg_T_ties (pc2 := 9) hC hi_X9_addToTie_X9 lk_X9_addToTie_1 dX9_addToTie_6 rfl ?_
    refine jj_iload_n (pc2 := 10) hC dX9_addToTie_9 rfl 1 rfl rfl ?_
    refine jj_dup2 (pc2 := 11) hC dX9_addToTie_10 rfl rfl rfl ?_
    refine cl_T_ties (pc2 := 12) hC hV.1 dX9_addToTie_11 rfl ?_
    have hV := hV.2
    refine jj_iload_n (pc2 := 13) hC dX9_addToTie_12 rfl 2 rfl rfl ?_
    refine jj_iadd (pc2 := 14) hC dX9_addToTie_13 rfl ?_
    refine ct_T_ties (pc2 := 15) hC hV.1 dX9_addToTie_14 rfl (fun g2 eg2 => ?_)
    have hV := hV.2 g2 eg2
    exact jj_vret hC dX9_addToTie_15 hV
theorem hi_X9_addLine_X9 : ∀ w ∈ u_ws RX9 TX9 11, w ∈ wsX9_addLine := fun _ h => List.mem_cons_of_mem _ (List.mem_append_right _ h)
theorem lk_X9_addLine_1 : Cond.fieldLink RX9 21 "PartedHouse$Text" "lengths" "[I" ∈ wsX9_addLine := List.mem_of_getElem? (i := 1) rfl
theorem lk_X9_addLine_4 : Cond.fieldLink RX9 30 "PartedHouse$Text" "ys" "[I" ∈ wsX9_addLine := List.mem_of_getElem? (i := 4) rfl
theorem lk_X9_addLine_3 : Cond.fieldLink RX9 27 "PartedHouse$Text" "xs" "[I" ∈ wsX9_addLine := List.mem_of_getElem? (i := 3) rfl
theorem lk_X9_addLine_2 : Cond.fieldLink RX9 24 "PartedHouse$Text" "ops" "[I" ∈ wsX9_addLine := List.mem_of_getElem? (i := 2) rfl
abbrev rm_X9_addLine : Room := { frames := 2, cells := 0, slots := 0, locals := 45 }
def vc_X9_addLine (a1 : Int32) (a2 : Int32) (a3 : Int32) (a4 : Int32) (g0 : cm_M) (Post : Int32 → cm_M → Prop) : Prop := (vp_in a1 40) ∧ (∀ y1 : Int32, y1 = g0.2.2 7 a1.toNatClampNeg → (∀ y2 : Int32, y2 = (a1 * 16) + y1 → ((vp_in y2 640) ∧ (∀ g3 : cm_M, g3 = cm_a g0 8 y2 a2 → ((vp_in y2 640) ∧ (∀ g4 : cm_M, g4 = cm_a g3 9 y2 a3 → ((vp_in y2 640) ∧ (∀ g5 : cm_M, g5 = cm_a g4 10 y2 a4 → ((vp_in a1 40) ∧ (∀ g6 : cm_M, g6 = cm_a g5 7 a1 (y1 + 1) → (vc_X9_tieOfLine a1 y2 g6 (fun (r7 : Int32) => vc_X9_addToTie r7 1 g6 (fun (g9 : cm_M) => Post y1 g9)))))))))))))
set_option maxHeartbeats 4000000 in
set_option maxRecDepth 100000 in
theorem kc_X9_addLine (l : Launch) (D : va_G) (cs : Nat → ClassId) (Y X : va_W) (ad : Nat → Nat) (a1 : Int32) (a2 : Int32) (a3 : Int32) (a4 : Int32) (g0 : cm_M) (Post : Int32 → cm_M → Prop) (hV : vc_X9_addLine a1 a2 a3 a4 g0 Post) : JI (wc_d Y X cs ad) D vwCl (jt_tys cs) l yX9_addLine wsX9_addLine rm_X9_addLine 0 0 [.ref (ad 1), .int a1, .int a2, .int a3, .int a4] g0 Post := by
  refine jj_metI (cc := cX9_addLine) (nL := 7) (ret := (some .int)) (by decide) rfl (Nat.le_of_ble_eq_true rfl) [(0, .ref (ad 1)), (1, .int a1), (2, .int a2), (3, .int a3), (4, .int a4)] rfl ?_
  intro p e s m args below meth c hC hnm
  rw [vc_X9_addLine] at hV
  refine jj_aload_n (pc2 := 1) hC dX9_addLine_0 rfl 0 rfl rfl ?_
  refine cg_T_lengths (pc2 := 4) hC hi_X9_addLine_X9 lk_X9_addLine_1 dX9_addLine_1 rfl ?_
  refine jj_iload_n (pc2 := 5) hC dX9_addLine_4 rfl 1 rfl rfl ?_
  refine cl_T_lengths (pc2 := 6) hC hV.1 dX9_addLine_5 rfl ?_
  have hV := hV.2
  refine jj_topi (fun y1 ey1 => ?_)
  have hV := hV y1 ey1
  refine jj_istore (pc2 := 8) hC [(5, .int y1), (0, .ref (ad 1)), (1, .int a1), (2, .int a2), (3, .int a3), (4, .int a4)] dX9_addLine_6 (by decide) rfl rfl ?_
  refine jj_iload_n (pc2 := 9) hC dX9_addLine_8 rfl 2 rfl rfl ?_
  refine jj_bipush (pc2 := 11) hC 16 dX9_addLine_9 (by decide) rfl ?_
  refine jj_imul (pc2 := 12) hC dX9_addLine_11 rfl ?_
  refine jj_iload (pc2 := 14) hC dX9_addLine_12 0 rfl rfl ?_
  refine jj_iadd (pc2 := 15) hC dX9_addLine_14 rfl ?_
  refine jj_topi (fun y2 ey2 => ?_)
  have hV := hV y2 ey2
  refine jj_istore (pc2 := 17) hC [(6, .int y2), (5, .int y1), (0, .ref (ad 1)), (1, .int a1), (2, .int a2), (3, .int a3), (4, .int a4)] dX9_addLine_15 (by decide) rfl rfl ?_
  refine jj_aload_n (pc2 := 18) hC dX9_addLine_17 rfl 2 rfl rfl ?_
  refine cg_T_ops (pc2 := 21) hC hi_X9_addLine_X9 lk_X9_addLine_2 dX9_addLine_18 rfl ?_
  refine jj_iload (pc2 := 23) hC dX9_addLine_21 0 rfl rfl ?_
  refine jj_iload_n (pc2 := 24) hC dX9_addLine_23 rfl 4 rfl rfl ?_
  refine ct_T_ops (pc2 := 25) hC hV.1 dX9_addLine_24 rfl (fun g3 eg3 => ?_)
  have hV := hV.2 g3 eg3
  refine jj_aload_n (pc2 := 26) hC dX9_addLine_25 rfl 2 rfl rfl ?_
  refine cg_T_xs (pc2 := 29) hC hi_X9_addLine_X9 lk_X9_addLine_3 dX9_addLine_26 rfl ?_
  refine jj_iload (pc2 := 31) hC dX9_addLine_29 0 rfl rfl ?_
  refine jj_iload_n (pc2 := 32) hC dX9_addLine_31 rfl 5 rfl rfl ?_
  refine ct_T_xs (pc2 := 33) hC hV.1 dX9_addLine_32 rfl (fun g4 eg4 => ?_)
  have hV := hV.2 g4 eg4
  refine jj_aload_n (pc2 := 34) hC dX9_addLine_33 rfl 2 rfl rfl ?_
  refine cg_T_ys (pc2 := 37) hC hi_X9_addLine_X9 lk_X9_addLine_4 dX9_addLine_34 rfl ?_
  refine jj_iload (pc2 := 39) hC dX9_addLine_37 0 rfl rfl ?_
  refine jj_iload (pc2 := 41) hC dX9_addLine_39 6 rfl rfl ?_
  refine ct_T_ys (pc2 := 42) hC hV.1 dX9_addLine_41 rfl (fun g5 eg5 => ?_)
  have hV := hV.2 g5 eg5
  refine jj_aload_n (pc2 := 43) hC dX9_addLine_42 rfl 2 rfl rfl ?_
  refine cg_T_lengths (pc2 := 46) hC hi_X9_addLine_X9 lk_X9_addLine_1 dX9_addLine_43 rfl ?_
  refine jj_iload_n (pc2 := 47) hC dX9_addLine_46 rfl 3 rfl rfl ?_
  refine jj_iload (pc2 := 49) hC dX9_addLine_47 1 rfl rfl ?_
  refine jj_iconst (pc2 := 50) hC 1 dX9_addLine_49 (by decide) rfl ?_
  refine jj_iadd (pc2 := 51) hC dX9_addLine_50 rfl ?_
  refine ct_T_lengths (pc2 := 52) hC hV.1 dX9_addLine_51 rfl (fun g6 eg6 => ?_)
  have hV := hV.2 g6 eg6
  refine jj_aload_n (pc2 := 53) hC dX9_addLine_52 rfl 2 rfl rfl ?_
  refine jj_aload_n (pc2 := 54) hC dX9_addLine_53 rfl 2 rfl rfl ?_
  refine jj_iload_n (pc2 := 55) hC dX9_addLine_54 rfl 3 rfl rfl ?_
  refine jj_iload (pc2 := 57) hC dX9_addLine_55 0 rfl rfl ?_
  refine jj_cVIp (pc2 := 60) (wd := wc_d Y X cs ad) (g := g6) (rest := [.ref (ad 1)]) hC (Y.length + 1) (jx_at (V := wc_W cs ad g6) rfl) rfl rfl (kc_X9_tieOfLine l D cs Y X ad a1 y2 g6 _ hV) (cwV 2 hC.1.2.2.2.2 gX9_addLine_X9_tieOfLine rfl rfl rfl (by decide +kernel) ⟨by decide, by decide⟩) rfl (Nat.le_of_ble_eq_true rfl) _ rfl dX9_addLine_57 ⟨Nat.zero_le _, Nat.zero_le _⟩ rfl (fun r7 hV => ?_)
  refine jj_iconst (pc2 := 61) hC 1 dX9_addLine_60 (by decide) rfl ?_
  refine jj_cVV (pc2 := 64) (wd := wc_d Y X cs ad) (g := g6) (rest := []) hC (Y.length + 1) (jx_at (V := wc_W cs ad g6) rfl) rfl rfl (kc_X9_addToTie l D cs Y X ad r7 1 g6 _ hV) (cwV 2 hC.1.2.2.2.2 gX9_addLine_X9_addToTie rfl rfl rfl (by decide +kernel) ⟨by decide, by decide⟩) rfl (Nat.le_of_ble_eq_true rfl) _ rfl dX9_addLine_61 ⟨Nat.zero_le _, Nat.zero_le _⟩ rfl (fun g9 hV => ?_)
  refine jj_iload (pc2 := 66) hC dX9_addLine_64 1 rfl rfl ?_
  exact jj_iret hC dX9_addLine_66 hV
theorem hi_X9_dropLines_X9 : ∀ w ∈ u_ws RX9 TX9 11, w ∈ wsX9_dropLines := fun _ h => List.mem_cons_of_mem _ (List.mem_append_right _ h)
theorem lk_X9_dropLines_1 : Cond.fieldLink RX9 21 "PartedHouse$Text" "lengths" "[I" ∈ wsX9_dropLines := List.mem_of_getElem? (i := 1) rfl
abbrev rm_X9_dropLines : Room := { frames := 2, cells := 0, slots := 0, locals := 45 }
def vc_X9_dropLines_9 (x1 : Int32) (x2 : Int32) (K36 : cm_M → Prop) (Post : Int32 → cm_M → Prop) : Nat → Int32 → cm_M → Prop
  | 0, _, _ => False
  | f + 1, x3, g => ((x2 ≤ x3) → (K36 g)) ∧ ((¬ x2 ≤ x3) → (vc_X9_tieOfLine x1 ((x1 * 16) + x3) g (fun (r3 : Int32) => vc_X9_addToTie r3 (-1) g (fun (g5 : cm_M) => vc_X9_dropLines_9 x1 x2 K36 Post f (x3 + 1) g5))))
def vc_X9_dropLines (a1 : Int32) (g0 : cm_M) (Post : Int32 → cm_M → Prop) : Prop := (vp_in a1 40) ∧ (∀ y1 : Int32, y1 = g0.2.2 7 a1.toNatClampNeg → (∃ n8 : Nat, vc_X9_dropLines_9 a1 y1 (fun (g6 : cm_M) => (vp_in a1 40) ∧ (∀ g7 : cm_M, g7 = cm_a g6 7 a1 0 → (Post y1 g7))) Post n8 0 g0))
set_option maxHeartbeats 4000000 in
set_option maxRecDepth 100000 in
theorem ac_X9_dropLines_9 {p : Program} {l : Launch} {e : Env} {s : State} {m : MethodId} {args : Array Value} {below : List Frame} {meth : Method} {c : Code} {D : va_G} {cs : Nat → ClassId} {Y X : va_W} {ad : Nat → Nat} {g0 : cm_M} (hC : JC p s m args meth c D vwCl (va_A (wc_d Y X cs ad g0) s.heap.size) 4 cX9_dropLines (some .int) wsX9_dropLines RX9 (jt_tys cs)) (x1 : Int32) (x2 : Int32) (Post : Int32 → cm_M → Prop) (K36 : cm_M → Prop) (hK36 : ∀ (g : cm_M) , K36 g → JJ (wc_d Y X cs ad) p l e rm_X9_dropLines s m args below meth c D vwCl (va_A (wc_d Y X cs ad g0) s.heap.size) 4 0 0 (MQ below (jj_QI (wc_d Y X cs ad) D vwCl (jt_tys cs) g0 s.heap.size Post) args s 0 0 (va_A (wc_d Y X cs ad g0) s.heap.size)) 36 [(0, .ref (ad 1)), (1, .int x1), (2, .int x2)] [] g) : ∀ (f : Nat) (x3 : Int32) (g : cm_M), vc_X9_dropLines_9 x1 x2 K36 Post f x3 g → JJ (wc_d Y X cs ad) p l e rm_X9_dropLines s m args below meth c D vwCl (va_A (wc_d Y X cs ad g0) s.heap.size) 4 0 0 (MQ below (jj_QI (wc_d Y X cs ad) D vwCl (jt_tys cs) g0 s.heap.size Post) args s 0 0 (va_A (wc_d Y X cs ad g0) s.heap.size)) 9 [(0, .ref (ad 1)), (1, .int x1), (2, .int x2), (3, .int x3)] [] g := by
  intro f
  induction f with
  | zero => intro x3 g hV; exact hV.elim
  | succ f ih =>
    intro x3 g hV
    rw [vc_X9_dropLines_9] at hV
    refine jj_iload_n (pc2 := 10) hC dX9_dropLines_9 rfl 3 rfl rfl ?_
    refine jj_iload_n (pc2 := 11) hC dX9_dropLines_10 rfl 2 rfl rfl ?_
    refine jj_icmp_ge (pc2 := 14) hC 36 dX9_dropLines_11 (by decide) rfl (fun h2 => ?_) (fun h2 => ?_)
    · have hV := hV.1 h2
      exact jj_sub (lv2 := [(0, .ref (ad 1)), (1, .int x1), (2, .int x2)]) [0, 1, 2] rfl (hK36 g hV)
    · have hV := hV.2 h2
      refine jj_aload_n (pc2 := 15) hC dX9_dropLines_14 rfl 0 rfl rfl ?_
      refine jj_aload_n (pc2 := 16) hC dX9_dropLines_15 rfl 0 rfl rfl ?_
      refine jj_iload_n (pc2 := 17) hC dX9_dropLines_16 rfl 1 rfl rfl ?_
      refine jj_iload_n (pc2 := 18) hC dX9_dropLines_17 rfl 1 rfl rfl ?_
      refine jj_bipush (pc2 := 20) hC 16 dX9_dropLines_18 (by decide) rfl ?_
      refine jj_imul (pc2 := 21) hC dX9_dropLines_20 rfl ?_
      refine jj_iload_n (pc2 := 22) hC dX9_dropLines_21 rfl 3 rfl rfl ?_
      refine jj_iadd (pc2 := 23) hC dX9_dropLines_22 rfl ?_
      refine jj_cVIp (pc2 := 26) (wd := wc_d Y X cs ad) (g := g) (rest := [.ref (ad 1)]) hC (Y.length + 1) (jx_at (V := wc_W cs ad g) rfl) rfl rfl (kc_X9_tieOfLine l D cs Y X ad x1 ((x1 * 16) + x3) g _ hV) (cwV 2 hC.1.2.2.2.2 gX9_dropLines_X9_tieOfLine rfl rfl rfl (by decide +kernel) ⟨by decide, by decide⟩) rfl (Nat.le_of_ble_eq_true rfl) _ rfl dX9_dropLines_23 ⟨Nat.zero_le _, Nat.zero_le _⟩ rfl (fun r3 hV => ?_)
      refine jj_iconst (pc2 := 27) hC (-1) dX9_dropLines_26 (by decide) rfl ?_
      refine jj_cVV (pc2 := 30) (wd := wc_d Y X cs ad) (g := g) (rest := []) hC (Y.length + 1) (jx_at (V := wc_W cs ad g) rfl) rfl rfl (kc_X9_addToTie l D cs Y X ad r3 (-1) g _ hV) (cwV 2 hC.1.2.2.2.2 gX9_dropLines_X9_addToTie rfl rfl rfl (by decide +kernel) ⟨by decide, by decide⟩) rfl (Nat.le_of_ble_eq_true rfl) _ rfl dX9_dropLines_27 ⟨Nat.zero_le _, Nat.zero_le _⟩ rfl (fun g5 hV => ?_)
      refine jj_iinc (pc2 := 33) hC (x3 + 1) [(3, .int (x3 + 1)), (0, .ref (ad 1)), (1, .int x1), (2, .int x2)] dX9_dropLines_30 3 rfl rfl (by decide) rfl rfl ?_
      refine jj_goto hC 9 dX9_dropLines_33 (by decide) ?_
      exact jj_sub (lv2 := [(0, .ref (ad 1)), (1, .int x1), (2, .int x2), (3, .int (x3 + 1))]) [1, 2, 3, 0] rfl (ih (x3 + 1) g5 hV)
set_option maxHeartbeats 4000000 in
set_option maxRecDepth 100000 in
theorem kc_X9_dropLines (l : Launch) (D : va_G) (cs : Nat → ClassId) (Y X : va_W) (ad : Nat → Nat) (a1 : Int32) (g0 : cm_M) (Post : Int32 → cm_M → Prop) (hV : vc_X9_dropLines a1 g0 Post) : JI (wc_d Y X cs ad) D vwCl (jt_tys cs) l yX9_dropLines wsX9_dropLines rm_X9_dropLines 0 0 [.ref (ad 1), .int a1] g0 Post := by
  refine jj_metI (cc := cX9_dropLines) (nL := 4) (ret := (some .int)) (by decide) rfl (Nat.le_of_ble_eq_true rfl) [(0, .ref (ad 1)), (1, .int a1)] rfl ?_
  intro p e s m args below meth c hC hnm
  rw [vc_X9_dropLines] at hV
  refine jj_aload_n (pc2 := 1) hC dX9_dropLines_0 rfl 0 rfl rfl ?_
  refine cg_T_lengths (pc2 := 4) hC hi_X9_dropLines_X9 lk_X9_dropLines_1 dX9_dropLines_1 rfl ?_
  refine jj_iload_n (pc2 := 5) hC dX9_dropLines_4 rfl 1 rfl rfl ?_
  refine cl_T_lengths (pc2 := 6) hC hV.1 dX9_dropLines_5 rfl ?_
  have hV := hV.2
  refine jj_topi (fun y1 ey1 => ?_)
  have hV := hV y1 ey1
  refine jj_istore_n (pc2 := 7) hC [(2, .int y1), (0, .ref (ad 1)), (1, .int a1)] dX9_dropLines_6 rfl (by decide) rfl rfl ?_
  refine jj_iconst (pc2 := 8) hC 0 dX9_dropLines_7 (by decide) rfl ?_
  refine jj_istore_n (pc2 := 9) hC [(3, .int 0), (2, .int y1), (0, .ref (ad 1)), (1, .int a1)] dX9_dropLines_8 rfl (by decide) rfl rfl ?_
  obtain ⟨n8, hV⟩ := hV
  refine jj_sub (lv2 := [(0, .ref (ad 1)), (1, .int a1), (2, .int y1), (3, .int 0)]) [2, 3, 1, 0] rfl (ac_X9_dropLines_9 hC a1 y1 Post _ (fun g6 hV => ?_) n8 0 g0 hV)
  refine jj_aload_n (pc2 := 37) hC dX9_dropLines_36 rfl 0 rfl rfl ?_
  refine cg_T_lengths (pc2 := 40) hC hi_X9_dropLines_X9 lk_X9_dropLines_1 dX9_dropLines_37 rfl ?_
  refine jj_iload_n (pc2 := 41) hC dX9_dropLines_40 rfl 1 rfl rfl ?_
  refine jj_iconst (pc2 := 42) hC 0 dX9_dropLines_41 (by decide) rfl ?_
  refine ct_T_lengths (pc2 := 43) hC hV.1 dX9_dropLines_42 rfl (fun g7 eg7 => ?_)
  have hV := hV.2 g7 eg7
  refine jj_iload_n (pc2 := 44) hC dX9_dropLines_43 rfl 2 rfl rfl ?_
  exact jj_iret hC dX9_dropLines_44 hV
theorem hi_X10_module_X10 : ∀ w ∈ u_ws RX10 TX10 13, w ∈ wsX10_module := fun _ h => List.mem_cons_of_mem _ (List.mem_append_left _ (List.mem_append_right _ h))
theorem lk_X10_module_1 : Cond.fieldLink RX10 12 "PartedHouse" "text" "LPartedHouse$Text;" ∈ wsX10_module := List.mem_of_getElem? (i := 1) rfl
theorem hi_X10_module_X9 : ∀ w ∈ u_ws RX9 TX9 11, w ∈ wsX10_module := fun _ h => List.mem_cons_of_mem _ (List.mem_append_right _ h)
theorem lk_X10_module_2 : Cond.fieldLink RX10 92 "PartedHouse$Text" "modules" "I" ∈ wsX10_module := List.mem_of_getElem? (i := 2) rfl
abbrev rm_X10_module : Room := { frames := 1, cells := 0, slots := 0, locals := 21 }
def vc_X10_module (a1 : Int32) (g0 : cm_M) (Post : Int32 → cm_M → Prop) : Prop := ((a1 < 1) → (Post (-1) g0)) ∧ ((¬ a1 < 1) → (((a1 ≤ 99) → ((((g0.2.2 12 0) < 10) → (vc_X9_addModule a1 g0 (fun (r4 : Int32) (g5 : cm_M) => Post r4 g5))) ∧ ((¬ (g0.2.2 12 0) < 10) → (Post (-3) g0)))) ∧ ((¬ a1 ≤ 99) → (Post (-1) g0))))
set_option maxHeartbeats 4000000 in
set_option maxRecDepth 100000 in
theorem kc_X10_module (l : Launch) (D : va_G) (cs : Nat → ClassId) (Y X : va_W) (ad : Nat → Nat) (a1 : Int32) (g0 : cm_M) (Post : Int32 → cm_M → Prop) (hV : vc_X10_module a1 g0 Post) : JI (wc_d Y X cs ad) D vwCl (jt_tys cs) l yX10_module wsX10_module rm_X10_module 0 0 [.ref (ad 0), .int a1] g0 Post := by
  refine jj_metI (cc := cX10_module) (nL := 2) (ret := (some .int)) (by decide) rfl (Nat.le_of_ble_eq_true rfl) [(0, .ref (ad 0)), (1, .int a1)] rfl ?_
  intro p e s m args below meth c hC hnm
  rw [vc_X10_module] at hV
  refine jj_iload_n (pc2 := 1) hC dX10_module_0 rfl 1 rfl rfl ?_
  refine jj_iconst (pc2 := 2) hC 1 dX10_module_1 (by decide) rfl ?_
  refine jj_icmp_lt (pc2 := 5) hC 11 dX10_module_2 (by decide) rfl (fun h1 => ?_) (fun h1 => ?_)
  · have hV := hV.1 h1
    refine jj_iconst (pc2 := 12) hC (-1) dX10_module_11 (by decide) rfl ?_
    exact jj_iret hC dX10_module_12 hV
  · have hV := hV.2 h1
    refine jj_iload_n (pc2 := 6) hC dX10_module_5 rfl 1 rfl rfl ?_
    refine jj_bipush (pc2 := 8) hC 99 dX10_module_6 (by decide) rfl ?_
    refine jj_icmp_le (pc2 := 11) hC 13 dX10_module_8 (by decide) rfl (fun h2 => ?_) (fun h2 => ?_)
    · have hV := hV.1 h2
      refine jj_aload_n (pc2 := 14) hC dX10_module_13 rfl 0 rfl rfl ?_
      refine cg_M_text (pc2 := 17) hC hi_X10_module_X10 lk_X10_module_1 dX10_module_14 rfl ?_
      refine cg_T_modules (pc2 := 20) hC hi_X10_module_X9 lk_X10_module_2 dX10_module_17 rfl ?_
      refine jj_bipush (pc2 := 22) hC 10 dX10_module_20 (by decide) rfl ?_
      refine jj_icmp_lt (pc2 := 25) hC 30 dX10_module_22 (by decide) rfl (fun h3 => ?_) (fun h3 => ?_)
      · have hV := hV.1 h3
        refine jj_aload_n (pc2 := 31) hC dX10_module_30 rfl 0 rfl rfl ?_
        refine cg_M_text (pc2 := 34) hC hi_X10_module_X10 lk_X10_module_1 dX10_module_31 rfl ?_
        refine jj_iload_n (pc2 := 35) hC dX10_module_34 rfl 1 rfl rfl ?_
        refine jj_cVI (pc2 := 38) (wd := wc_d Y X cs ad) (g := g0) (rest := []) hC (Y.length + 1) (jx_at (V := wc_W cs ad g0) rfl) rfl rfl (kc_X9_addModule l D cs Y X ad a1 g0 _ hV) (cwV 1 hC.1.2.2.2.2 gX10_module_X9_addModule rfl rfl rfl (by decide +kernel) ⟨by decide, by decide⟩) rfl (Nat.le_of_ble_eq_true rfl) _ rfl dX10_module_35 ⟨Nat.zero_le _, Nat.zero_le _⟩ rfl (fun r4 g5 hV => ?_)
        exact jj_iret hC dX10_module_38 hV
      · have hV := hV.2 h3
        refine jj_bipush (pc2 := 27) hC (-3) dX10_module_25 (by decide) rfl ?_
        refine jj_goto hC 38 dX10_module_27 (by decide) ?_
        exact jj_iret hC dX10_module_38 hV
    · have hV := hV.2 h2
      refine jj_iconst (pc2 := 12) hC (-1) dX10_module_11 (by decide) rfl ?_
      exact jj_iret hC dX10_module_12 hV
