theorem hi_X10_table_X10 : ∀ w ∈ u_ws RX10 TX10 13, w ∈ wsX10_table := fun _ h => List.mem_cons_of_mem _ (List.mem_append_left _ (List.mem_append_right _ h))
theorem lk_X10_table_1 : Cond.fieldLink RX10 12 "PartedHouse" "text" "LPartedHouse$Text;" ∈ wsX10_table := List.mem_of_getElem? (i := 1) rfl
theorem hi_X10_table_X9 : ∀ w ∈ u_ws RX9 TX9 11, w ∈ wsX10_table := fun _ h => List.mem_cons_of_mem _ (List.mem_append_right _ h)
theorem lk_X10_table_2 : Cond.fieldLink RX10 104 "PartedHouse$Text" "tables" "I" ∈ wsX10_table := List.mem_of_getElem? (i := 2) rfl
abbrev rm_X10_table : Room := { frames := 1, cells := 0, slots := 0, locals := 21 }
def vc_X10_table (a1 : Int32) (g0 : cm_M) (Post : Int32 → cm_M → Prop) : Prop := vc_X9_hasModule a1 g0 (fun (r1 : Int32) => ((¬ r1 = 0) → ((((g0.2.2 13 0) < 16) → (vc_X9_addTable a1 g0 (fun (r4 : Int32) (g5 : cm_M) => Post r4 g5))) ∧ ((¬ (g0.2.2 13 0) < 16) → (Post (-3) g0)))) ∧ ((r1 = 0) → (Post (-1) g0)))
set_option maxHeartbeats 4000000 in
set_option maxRecDepth 100000 in
theorem kc_X10_table (l : Launch) (D : va_G) (cs : Nat → ClassId) (Y X : va_W) (ad : Nat → Nat) (a1 : Int32) (g0 : cm_M) (Post : Int32 → cm_M → Prop) (hV : vc_X10_table a1 g0 Post) : JI (wc_d Y X cs ad) D vwCl (jt_tys cs) l yX10_table wsX10_table rm_X10_table 0 0 [.ref (ad 0), .int a1] g0 Post := by
  refine jj_metI (cc := cX10_table) (nL := 2) (ret := (some .int)) (by decide) rfl (Nat.le_of_ble_eq_true rfl) [(0, .ref (ad 0)), (1, .int a1)] rfl ?_
  intro p e s m args below meth c hC hnm
  rw [vc_X10_table] at hV
  refine jj_aload_n (pc2 := 1) hC dX10_table_0 rfl 0 rfl rfl ?_
  refine cg_M_text (pc2 := 4) hC hi_X10_table_X10 lk_X10_table_1 dX10_table_1 rfl ?_
  refine jj_iload_n (pc2 := 5) hC dX10_table_4 rfl 1 rfl rfl ?_
  refine jj_cVIp (pc2 := 8) (wd := wc_d Y X cs ad) (g := g0) (rest := []) hC (Y.length + 1) (jx_at (V := wc_W cs ad g0) rfl) rfl rfl (kc_X9_hasModule l D cs Y X ad a1 g0 _ hV) (cwV 1 hC.1.2.2.2.2 gX10_table_X9_hasModule rfl rfl rfl (by decide +kernel) ⟨by decide, by decide⟩) rfl (Nat.le_of_ble_eq_true rfl) _ rfl dX10_table_5 ⟨Nat.zero_le _, Nat.zero_le _⟩ rfl (fun r1 hV => ?_)
  refine jj_if_ne (pc2 := 11) hC 13 dX10_table_8 (by decide) rfl (fun h2 => ?_) (fun h2 => ?_)
  · have hV := hV.1 h2
    refine jj_aload_n (pc2 := 14) hC dX10_table_13 rfl 0 rfl rfl ?_
    refine cg_M_text (pc2 := 17) hC hi_X10_table_X10 lk_X10_table_1 dX10_table_14 rfl ?_
    refine cg_T_tables (pc2 := 20) hC hi_X10_table_X9 lk_X10_table_2 dX10_table_17 rfl ?_
    refine jj_bipush (pc2 := 22) hC 16 dX10_table_20 (by decide) rfl ?_
    refine jj_icmp_lt (pc2 := 25) hC 30 dX10_table_22 (by decide) rfl (fun h3 => ?_) (fun h3 => ?_)
    · have hV := hV.1 h3
      refine jj_aload_n (pc2 := 31) hC dX10_table_30 rfl 0 rfl rfl ?_
      refine cg_M_text (pc2 := 34) hC hi_X10_table_X10 lk_X10_table_1 dX10_table_31 rfl ?_
      refine jj_iload_n (pc2 := 35) hC dX10_table_34 rfl 1 rfl rfl ?_
      refine jj_cVI (pc2 := 38) (wd := wc_d Y X cs ad) (g := g0) (rest := []) hC (Y.length + 1) (jx_at (V := wc_W cs ad g0) rfl) rfl rfl (kc_X9_addTable l D cs Y X ad a1 g0 _ hV) (cwV 1 hC.1.2.2.2.2 gX10_table_X9_addTable rfl rfl rfl (by decide +kernel) ⟨by decide, by decide⟩) rfl (Nat.le_of_ble_eq_true rfl) _ rfl dX10_table_35 ⟨Nat.zero_le _, Nat.zero_le _⟩ rfl (fun r4 g5 hV => ?_)
      exact jj_iret hC dX10_table_38 hV
    · have hV := hV.2 h3
      refine jj_bipush (pc2 := 27) hC (-3) dX10_table_25 (by decide) rfl ?_
      refine jj_goto hC 38 dX10_table_27 (by decide) ?_
      exact jj_iret hC dX10_table_38 hV
  · have hV := hV.2 h2
    refine jj_iconst (pc2 := 12) hC (-1) dX10_table_11 (by decide) rfl ?_
    exact jj_iret hC dX10_table_12 hV
theorem hi_X10_routine_X10 : ∀ w ∈ u_ws RX10 TX10 13, w ∈ wsX10_routine := fun _ h => List.mem_cons_of_mem _ (List.mem_append_left _ (List.mem_append_right _ h))
theorem lk_X10_routine_1 : Cond.fieldLink RX10 12 "PartedHouse" "text" "LPartedHouse$Text;" ∈ wsX10_routine := List.mem_of_getElem? (i := 1) rfl
theorem hi_X10_routine_X9 : ∀ w ∈ u_ws RX9 TX9 11, w ∈ wsX10_routine := fun _ h => List.mem_cons_of_mem _ (List.mem_append_right _ h)
theorem lk_X10_routine_2 : Cond.fieldLink RX10 110 "PartedHouse$Text" "routines" "I" ∈ wsX10_routine := List.mem_of_getElem? (i := 2) rfl
abbrev rm_X10_routine : Room := { frames := 1, cells := 0, slots := 0, locals := 21 }
def vc_X10_routine (a1 : Int32) (g0 : cm_M) (Post : Int32 → cm_M → Prop) : Prop := vc_X9_hasModule a1 g0 (fun (r1 : Int32) => ((¬ r1 = 0) → ((((g0.2.2 14 0) < 40) → (vc_X9_addRoutine a1 g0 (fun (r4 : Int32) (g5 : cm_M) => Post r4 g5))) ∧ ((¬ (g0.2.2 14 0) < 40) → (Post (-3) g0)))) ∧ ((r1 = 0) → (Post (-1) g0)))
set_option maxHeartbeats 4000000 in
set_option maxRecDepth 100000 in
theorem kc_X10_routine (l : Launch) (D : va_G) (cs : Nat → ClassId) (Y X : va_W) (ad : Nat → Nat) (a1 : Int32) (g0 : cm_M) (Post : Int32 → cm_M → Prop) (hV : vc_X10_routine a1 g0 Post) : JI (wc_d Y X cs ad) D vwCl (jt_tys cs) l yX10_routine wsX10_routine rm_X10_routine 0 0 [.ref (ad 0), .int a1] g0 Post := by
  refine jj_metI (cc := cX10_routine) (nL := 2) (ret := (some .int)) (by decide) rfl (Nat.le_of_ble_eq_true rfl) [(0, .ref (ad 0)), (1, .int a1)] rfl ?_
  intro p e s m args below meth c hC hnm
  rw [vc_X10_routine] at hV
  refine jj_aload_n (pc2 := 1) hC dX10_routine_0 rfl 0 rfl rfl ?_
  refine cg_M_text (pc2 := 4) hC hi_X10_routine_X10 lk_X10_routine_1 dX10_routine_1 rfl ?_
  refine jj_iload_n (pc2 := 5) hC dX10_routine_4 rfl 1 rfl rfl ?_
  refine jj_cVIp (pc2 := 8) (wd := wc_d Y X cs ad) (g := g0) (rest := []) hC (Y.length + 1) (jx_at (V := wc_W cs ad g0) rfl) rfl rfl (kc_X9_hasModule l D cs Y X ad a1 g0 _ hV) (cwV 1 hC.1.2.2.2.2 gX10_routine_X9_hasModule rfl rfl rfl (by decide +kernel) ⟨by decide, by decide⟩) rfl (Nat.le_of_ble_eq_true rfl) _ rfl dX10_routine_5 ⟨Nat.zero_le _, Nat.zero_le _⟩ rfl (fun r1 hV => ?_)
  refine jj_if_ne (pc2 := 11) hC 13 dX10_routine_8 (by decide) rfl (fun h2 => ?_) (fun h2 => ?_)
  · have hV := hV.1 h2
    refine jj_aload_n (pc2 := 14) hC dX10_routine_13 rfl 0 rfl rfl ?_
    refine cg_M_text (pc2 := 17) hC hi_X10_routine_X10 lk_X10_routine_1 dX10_routine_14 rfl ?_
    refine cg_T_routines (pc2 := 20) hC hi_X10_routine_X9 lk_X10_routine_2 dX10_routine_17 rfl ?_
    refine jj_bipush (pc2 := 22) hC 40 dX10_routine_20 (by decide) rfl ?_
    refine jj_icmp_lt (pc2 := 25) hC 30 dX10_routine_22 (by decide) rfl (fun h3 => ?_) (fun h3 => ?_)
    · have hV := hV.1 h3
      refine jj_aload_n (pc2 := 31) hC dX10_routine_30 rfl 0 rfl rfl ?_
      refine cg_M_text (pc2 := 34) hC hi_X10_routine_X10 lk_X10_routine_1 dX10_routine_31 rfl ?_
      refine jj_iload_n (pc2 := 35) hC dX10_routine_34 rfl 1 rfl rfl ?_
      refine jj_cVI (pc2 := 38) (wd := wc_d Y X cs ad) (g := g0) (rest := []) hC (Y.length + 1) (jx_at (V := wc_W cs ad g0) rfl) rfl rfl (kc_X9_addRoutine l D cs Y X ad a1 g0 _ hV) (cwV 1 hC.1.2.2.2.2 gX10_routine_X9_addRoutine rfl rfl rfl (by decide +kernel) ⟨by decide, by decide⟩) rfl (Nat.le_of_ble_eq_true rfl) _ rfl dX10_routine_35 ⟨Nat.zero_le _, Nat.zero_le _⟩ rfl (fun r4 g5 hV => ?_)
      exact jj_iret hC dX10_routine_38 hV
    · have hV := hV.2 h3
      refine jj_bipush (pc2 := 27) hC (-3) dX10_routine_25 (by decide) rfl ?_
      refine jj_goto hC 38 dX10_routine_27 (by decide) ?_
      exact jj_iret hC dX10_routine_38 hV
  · have hV := hV.2 h2
    refine jj_iconst (pc2 := 12) hC (-1) dX10_routine_11 (by decide) rfl ?_
    exact jj_iret hC dX10_routine_12 hV
theorem hi_X10_line_X10 : ∀ w ∈ u_ws RX10 TX10 13, w ∈ wsX10_line := fun _ h => List.mem_cons_of_mem _ (List.mem_append_left _ (List.mem_append_right _ h))
theorem lk_X10_line_1 : Cond.fieldLink RX10 12 "PartedHouse" "text" "LPartedHouse$Text;" ∈ wsX10_line := List.mem_of_getElem? (i := 1) rfl
theorem hi_X10_line_X9 : ∀ w ∈ u_ws RX9 TX9 11, w ∈ wsX10_line := fun _ h => List.mem_cons_of_mem _ (List.mem_append_right _ h)
theorem lk_X10_line_2 : Cond.fieldLink RX10 123 "PartedHouse$Text" "lengths" "[I" ∈ wsX10_line := List.mem_of_getElem? (i := 2) rfl
abbrev rm_X10_line : Room := { frames := 3, cells := 0, slots := 0, locals := 71 }
def vc_X10_line (a1 : Int32) (a2 : Int32) (a3 : Int32) (a4 : Int32) (g0 : cm_M) (Post : Int32 → cm_M → Prop) : Prop := vc_X9_hasRoutine a1 g0 (fun (r1 : Int32) => ((r1 = 0) → (Post (-1) g0)) ∧ ((¬ r1 = 0) → (vc_X9_isLine a2 a3 a4 g0 (fun (r3 : Int32) => ((¬ r3 = 0) → ((vp_in a1 40) ∧ ((((g0.2.2 7 a1.toNatClampNeg) < 16) → (vc_X9_addLine a1 a2 a3 a4 g0 (fun (r6 : Int32) (g7 : cm_M) => Post r6 g7))) ∧ ((¬ (g0.2.2 7 a1.toNatClampNeg) < 16) → (Post (-3) g0))))) ∧ ((r3 = 0) → (Post (-1) g0))))))
set_option maxHeartbeats 4000000 in
set_option maxRecDepth 100000 in
theorem kc_X10_line (l : Launch) (D : va_G) (cs : Nat → ClassId) (Y X : va_W) (ad : Nat → Nat) (a1 : Int32) (a2 : Int32) (a3 : Int32) (a4 : Int32) (g0 : cm_M) (Post : Int32 → cm_M → Prop) (hV : vc_X10_line a1 a2 a3 a4 g0 Post) : JI (wc_d Y X cs ad) D vwCl (jt_tys cs) l yX10_line wsX10_line rm_X10_line 0 0 [.ref (ad 0), .int a1, .int a2, .int a3, .int a4] g0 Post := by
  refine jj_metI (cc := cX10_line) (nL := 5) (ret := (some .int)) (by decide) rfl (Nat.le_of_ble_eq_true rfl) [(0, .ref (ad 0)), (1, .int a1), (2, .int a2), (3, .int a3), (4, .int a4)] rfl ?_
  intro p e s m args below meth c hC hnm
  rw [vc_X10_line] at hV
  refine jj_aload_n (pc2 := 1) hC dX10_line_0 rfl 0 rfl rfl ?_
  refine cg_M_text (pc2 := 4) hC hi_X10_line_X10 lk_X10_line_1 dX10_line_1 rfl ?_
  refine jj_iload_n (pc2 := 5) hC dX10_line_4 rfl 1 rfl rfl ?_
  refine jj_cVIp (pc2 := 8) (wd := wc_d Y X cs ad) (g := g0) (rest := []) hC (Y.length + 1) (jx_at (V := wc_W cs ad g0) rfl) rfl rfl (kc_X9_hasRoutine l D cs Y X ad a1 g0 _ hV) (cwV 1 hC.1.2.2.2.2 gX10_line_X9_hasRoutine rfl rfl rfl (by decide +kernel) ⟨by decide, by decide⟩) rfl (Nat.le_of_ble_eq_true rfl) _ rfl dX10_line_5 ⟨Nat.zero_le _, Nat.zero_le _⟩ rfl (fun r1 hV => ?_)
  refine jj_if_eq (pc2 := 11) hC 25 dX10_line_8 (by decide) rfl (fun h2 => ?_) (fun h2 => ?_)
  · have hV := hV.1 h2
    refine jj_iconst (pc2 := 26) hC (-1) dX10_line_25 (by decide) rfl ?_
    exact jj_iret hC dX10_line_26 hV
  · have hV := hV.2 h2
    refine jj_aload_n (pc2 := 12) hC dX10_line_11 rfl 0 rfl rfl ?_
    refine cg_M_text (pc2 := 15) hC hi_X10_line_X10 lk_X10_line_1 dX10_line_12 rfl ?_
    refine jj_iload_n (pc2 := 16) hC dX10_line_15 rfl 2 rfl rfl ?_
    refine jj_iload_n (pc2 := 17) hC dX10_line_16 rfl 3 rfl rfl ?_
    refine jj_iload (pc2 := 19) hC dX10_line_17 4 rfl rfl ?_
    refine jj_cVIp (pc2 := 22) (wd := wc_d Y X cs ad) (g := g0) (rest := []) hC (Y.length + 1) (jx_at (V := wc_W cs ad g0) rfl) rfl rfl (kc_X9_isLine l D cs Y X ad a2 a3 a4 g0 _ hV) (cwV 3 hC.1.2.2.2.2 gX10_line_X9_isLine rfl rfl rfl (by decide +kernel) ⟨by decide, by decide⟩) rfl (Nat.le_of_ble_eq_true rfl) _ rfl dX10_line_19 ⟨Nat.zero_le _, Nat.zero_le _⟩ rfl (fun r3 hV => ?_)
    refine jj_if_ne (pc2 := 25) hC 27 dX10_line_22 (by decide) rfl (fun h4 => ?_) (fun h4 => ?_)
    · have hV := hV.1 h4
      refine jj_aload_n (pc2 := 28) hC dX10_line_27 rfl 0 rfl rfl ?_
      refine cg_M_text (pc2 := 31) hC hi_X10_line_X10 lk_X10_line_1 dX10_line_28 rfl ?_
      refine cg_T_lengths (pc2 := 34) hC hi_X10_line_X9 lk_X10_line_2 dX10_line_31 rfl ?_
      refine jj_iload_n (pc2 := 35) hC dX10_line_34 rfl 1 rfl rfl ?_
      refine cl_T_lengths (pc2 := 36) hC hV.1 dX10_line_35 rfl ?_
      have hV := hV.2
      refine jj_bipush (pc2 := 38) hC 16 dX10_line_36 (by decide) rfl ?_
      refine jj_icmp_lt (pc2 := 41) hC 46 dX10_line_38 (by decide) rfl (fun h5 => ?_) (fun h5 => ?_)
      · have hV := hV.1 h5
        refine jj_aload_n (pc2 := 47) hC dX10_line_46 rfl 0 rfl rfl ?_
        refine cg_M_text (pc2 := 50) hC hi_X10_line_X10 lk_X10_line_1 dX10_line_47 rfl ?_
        refine jj_iload_n (pc2 := 51) hC dX10_line_50 rfl 1 rfl rfl ?_
        refine jj_iload_n (pc2 := 52) hC dX10_line_51 rfl 2 rfl rfl ?_
        refine jj_iload_n (pc2 := 53) hC dX10_line_52 rfl 3 rfl rfl ?_
        refine jj_iload (pc2 := 55) hC dX10_line_53 4 rfl rfl ?_
        refine jj_cVI (pc2 := 58) (wd := wc_d Y X cs ad) (g := g0) (rest := []) hC (Y.length + 1) (jx_at (V := wc_W cs ad g0) rfl) rfl rfl (kc_X9_addLine l D cs Y X ad a1 a2 a3 a4 g0 _ hV) (cwV 4 hC.1.2.2.2.2 gX10_line_X9_addLine rfl rfl rfl (by decide +kernel) ⟨by decide, by decide⟩) rfl (Nat.le_of_ble_eq_true rfl) _ rfl dX10_line_55 ⟨Nat.zero_le _, Nat.zero_le _⟩ rfl (fun r6 g7 hV => ?_)
        exact jj_iret hC dX10_line_58 hV
      · have hV := hV.2 h5
        refine jj_bipush (pc2 := 43) hC (-3) dX10_line_41 (by decide) rfl ?_
        refine jj_goto hC 58 dX10_line_43 (by decide) ?_
        exact jj_iret hC dX10_line_58 hV
    · have hV := hV.2 h4
      refine jj_iconst (pc2 := 26) hC (-1) dX10_line_25 (by decide) rfl ?_
      exact jj_iret hC dX10_line_26 hV
theorem hi_X10_clear_X10 : ∀ w ∈ u_ws RX10 TX10 13, w ∈ wsX10_clear := fun _ h => List.mem_cons_of_mem _ (List.mem_append_left _ (List.mem_append_right _ h))
theorem lk_X10_clear_1 : Cond.fieldLink RX10 12 "PartedHouse" "text" "LPartedHouse$Text;" ∈ wsX10_clear := List.mem_of_getElem? (i := 1) rfl
abbrev rm_X10_clear : Room := { frames := 3, cells := 0, slots := 0, locals := 68 }
def vc_X10_clear (a1 : Int32) (g0 : cm_M) (Post : Int32 → cm_M → Prop) : Prop := vc_X9_hasRoutine a1 g0 (fun (r1 : Int32) => ((r1 = 0) → (Post (-1) g0)) ∧ ((¬ r1 = 0) → (vc_X9_dropLines a1 g0 (fun (r3 : Int32) (g4 : cm_M) => Post r3 g4))))
set_option maxHeartbeats 4000000 in
set_option maxRecDepth 100000 in
theorem kc_X10_clear (l : Launch) (D : va_G) (cs : Nat → ClassId) (Y X : va_W) (ad : Nat → Nat) (a1 : Int32) (g0 : cm_M) (Post : Int32 → cm_M → Prop) (hV : vc_X10_clear a1 g0 Post) : JI (wc_d Y X cs ad) D vwCl (jt_tys cs) l yX10_clear wsX10_clear rm_X10_clear 0 0 [.ref (ad 0), .int a1] g0 Post := by
  refine jj_metI (cc := cX10_clear) (nL := 2) (ret := (some .int)) (by decide) rfl (Nat.le_of_ble_eq_true rfl) [(0, .ref (ad 0)), (1, .int a1)] rfl ?_
  intro p e s m args below meth c hC hnm
  rw [vc_X10_clear] at hV
  refine jj_aload_n (pc2 := 1) hC dX10_clear_0 rfl 0 rfl rfl ?_
  refine cg_M_text (pc2 := 4) hC hi_X10_clear_X10 lk_X10_clear_1 dX10_clear_1 rfl ?_
  refine jj_iload_n (pc2 := 5) hC dX10_clear_4 rfl 1 rfl rfl ?_
  refine jj_cVIp (pc2 := 8) (wd := wc_d Y X cs ad) (g := g0) (rest := []) hC (Y.length + 1) (jx_at (V := wc_W cs ad g0) rfl) rfl rfl (kc_X9_hasRoutine l D cs Y X ad a1 g0 _ hV) (cwV 1 hC.1.2.2.2.2 gX10_clear_X9_hasRoutine rfl rfl rfl (by decide +kernel) ⟨by decide, by decide⟩) rfl (Nat.le_of_ble_eq_true rfl) _ rfl dX10_clear_5 ⟨Nat.zero_le _, Nat.zero_le _⟩ rfl (fun r1 hV => ?_)
  refine jj_if_eq (pc2 := 11) hC 22 dX10_clear_8 (by decide) rfl (fun h2 => ?_) (fun h2 => ?_)
  · have hV := hV.1 h2
    refine jj_iconst (pc2 := 23) hC (-1) dX10_clear_22 (by decide) rfl ?_
    exact jj_iret hC dX10_clear_23 hV
  · have hV := hV.2 h2
    refine jj_aload_n (pc2 := 12) hC dX10_clear_11 rfl 0 rfl rfl ?_
    refine cg_M_text (pc2 := 15) hC hi_X10_clear_X10 lk_X10_clear_1 dX10_clear_12 rfl ?_
    refine jj_iload_n (pc2 := 16) hC dX10_clear_15 rfl 1 rfl rfl ?_
    refine jj_cVI (pc2 := 19) (wd := wc_d Y X cs ad) (g := g0) (rest := []) hC (Y.length + 1) (jx_at (V := wc_W cs ad g0) rfl) rfl rfl (kc_X9_dropLines l D cs Y X ad a1 g0 _ hV) (cwV 1 hC.1.2.2.2.2 gX10_clear_X9_dropLines rfl rfl rfl (by decide +kernel) ⟨by decide, by decide⟩) rfl (Nat.le_of_ble_eq_true rfl) _ rfl dX10_clear_16 ⟨Nat.zero_le _, Nat.zero_le _⟩ rfl (fun r3 g4 hV => ?_)
    refine jj_goto hC 23 dX10_clear_19 (by decide) ?_
    exact jj_iret hC dX10_clear_23 hV
abbrev rm_X10_isHouse : Room := { frames := 0, cells := 0, slots := 0, locals := 0 }
def vc_X10_isHouse (a0 : Int32) (g0 : cm_M) (Post : Int32 → Prop) : Prop := ((a0 = 0) → (Post 1)) ∧ ((¬ a0 = 0) → (((¬ a0 = 1) → (Post 0)) ∧ ((a0 = 1) → (Post 1))))
set_option maxHeartbeats 4000000 in
set_option maxRecDepth 100000 in
theorem kc_X10_isHouse (l : Launch) (D : va_G) (cs : Nat → ClassId) (Y X : va_W) (ad : Nat → Nat) (a0 : Int32) (g0 : cm_M) (Post : Int32 → Prop) (hV : vc_X10_isHouse a0 g0 Post) : JI (wc_d Y X cs ad) D vwCl (jt_tys cs) l yX10_isHouse wsX10_isHouse rm_X10_isHouse 0 0 [.int a0] g0 (fun r g2 => Post r ∧ g2 = g0) := by
  refine jj_metI (cc := cX10_isHouse) (nL := 1) (ret := (some .boolean)) (by decide) rfl (Nat.le_of_ble_eq_true rfl) [(0, .int a0)] rfl ?_
  intro p e s m args below meth c hC hnm
  rw [vc_X10_isHouse] at hV
  refine jj_iload_n (pc2 := 1) hC dX10_isHouse_0 rfl 0 rfl rfl ?_
  refine jj_if_eq (pc2 := 4) hC 9 dX10_isHouse_1 (by decide) rfl (fun h1 => ?_) (fun h1 => ?_)
  · have hV := hV.1 h1
    refine jj_iconst (pc2 := 10) hC 1 dX10_isHouse_9 (by decide) rfl ?_
    refine jj_goto hC 14 dX10_isHouse_10 (by decide) ?_
    exact jj_zret hC jj_nb1 dX10_isHouse_14 ⟨hV, rfl⟩
  · have hV := hV.2 h1
    refine jj_iload_n (pc2 := 5) hC dX10_isHouse_4 rfl 0 rfl rfl ?_
    refine jj_iconst (pc2 := 6) hC 1 dX10_isHouse_5 (by decide) rfl ?_
    refine jj_icmp_ne (pc2 := 9) hC 13 dX10_isHouse_6 (by decide) rfl (fun h2 => ?_) (fun h2 => ?_)
    · have hV := hV.1 h2
      refine jj_iconst (pc2 := 14) hC 0 dX10_isHouse_13 (by decide) rfl ?_
      exact jj_zret hC jj_nb0 dX10_isHouse_14 ⟨hV, rfl⟩
    · have hV := hV.2 h2
      refine jj_iconst (pc2 := 10) hC 1 dX10_isHouse_9 (by decide) rfl ?_
      refine jj_goto hC 14 dX10_isHouse_10 (by decide) ?_
      exact jj_zret hC jj_nb1 dX10_isHouse_14 ⟨hV, rfl⟩
theorem lk_X10_cell_2 : Cond.constant RX10 140 (-2000000000) ∈ wsX10_cell := List.mem_of_getElem? (i := 2) rfl
theorem hi_X10_cell_X10 : ∀ w ∈ u_ws RX10 TX10 13, w ∈ wsX10_cell := fun _ h => List.mem_cons_of_mem _ (List.mem_append_left _ (List.mem_append_left _ (List.mem_append_right _ h)))
theorem lk_X10_cell_3 : Cond.fieldLink RX10 26 "PartedHouse" "now" "LPartedHouse$Houses;" ∈ wsX10_cell := List.mem_of_getElem? (i := 3) rfl
theorem lk_X10_cell_1 : Cond.fieldLink RX10 12 "PartedHouse" "text" "LPartedHouse$Text;" ∈ wsX10_cell := List.mem_of_getElem? (i := 1) rfl
abbrev rm_X10_cell : Room := { frames := 2, cells := 0, slots := 0, locals := 43 }
def vc_X10_cell (a1 : Int32) (a2 : Int32) (a3 : Int32) (g0 : cm_M) (Post : Int32 → Prop) : Prop := vc_X10_isHouse a1 g0 (fun (r1 : Int32) => ((r1 = 0) → (Post (-2000000000))) ∧ ((¬ r1 = 0) → (vc_X9_hasCell a2 a3 g0 (fun (r3 : Int32) => ((¬ r3 = 0) → (((a1 = 0) → ((vp_in ((a2 * 8) + a3) 128) ∧ (Post (g0.2.2 25 ((a2 * 8) + a3).toNatClampNeg)))) ∧ ((¬ a1 = 0) → ((vp_in ((a2 * 8) + a3) 128) ∧ (Post (g0.2.2 26 ((a2 * 8) + a3).toNatClampNeg)))))) ∧ ((r3 = 0) → (Post (-2000000000)))))))
set_option maxHeartbeats 4000000 in
set_option maxRecDepth 100000 in
theorem kc_X10_cell (l : Launch) (D : va_G) (cs : Nat → ClassId) (Y X : va_W) (ad : Nat → Nat) (a1 : Int32) (a2 : Int32) (a3 : Int32) (g0 : cm_M) (Post : Int32 → Prop) (hV : vc_X10_cell a1 a2 a3 g0 Post) : JI (wc_d Y X cs ad) D vwCl (jt_tys cs) l yX10_cell wsX10_cell rm_X10_cell 0 0 [.ref (ad 0), .int a1, .int a2, .int a3] g0 (fun r g2 => Post r ∧ g2 = g0) := by
  refine jj_metI (cc := cX10_cell) (nL := 4) (ret := (some .int)) (by decide) rfl (Nat.le_of_ble_eq_true rfl) [(0, .ref (ad 0)), (1, .int a1), (2, .int a2), (3, .int a3)] rfl ?_
  intro p e s m args below meth c hC hnm
  rw [vc_X10_cell] at hV
  refine jj_iload_n (pc2 := 1) hC dX10_cell_0 rfl 1 rfl rfl ?_
  refine jj_cSIp (pc2 := 4) (wd := wc_d Y X cs ad) (g := g0) (rest := []) hC (kc_X10_isHouse l D cs Y X ad a1 g0 _ hV) (va_cwS 1 hC.1.2.2.2.2 gX10_cell_X10_isHouse rfl rfl rfl (by decide +kernel) ⟨by decide, by decide⟩) rfl (Nat.le_of_ble_eq_true rfl) _ rfl dX10_cell_1 ⟨Nat.zero_le _, Nat.zero_le _⟩ rfl (fun r1 hV => ?_)
  refine jj_if_eq (pc2 := 7) hC 19 dX10_cell_4 (by decide) rfl (fun h2 => ?_) (fun h2 => ?_)
  · have hV := hV.1 h2
    refine jj_ldc (pc2 := 21) hC lk_X10_cell_2 dX10_cell_19 rfl ?_
    exact jj_iret hC dX10_cell_21 ⟨hV, rfl⟩
  · have hV := hV.2 h2
    refine jj_aload_n (pc2 := 8) hC dX10_cell_7 rfl 0 rfl rfl ?_
    refine cg_M_text (pc2 := 11) hC hi_X10_cell_X10 lk_X10_cell_1 dX10_cell_8 rfl ?_
    refine jj_iload_n (pc2 := 12) hC dX10_cell_11 rfl 2 rfl rfl ?_
    refine jj_iload_n (pc2 := 13) hC dX10_cell_12 rfl 3 rfl rfl ?_
    refine jj_cVIp (pc2 := 16) (wd := wc_d Y X cs ad) (g := g0) (rest := []) hC (Y.length + 1) (jx_at (V := wc_W cs ad g0) rfl) rfl rfl (kc_X9_hasCell l D cs Y X ad a2 a3 g0 _ hV) (cwV 2 hC.1.2.2.2.2 gX10_cell_X9_hasCell rfl rfl rfl (by decide +kernel) ⟨by decide, by decide⟩) rfl (Nat.le_of_ble_eq_true rfl) _ rfl dX10_cell_13 ⟨Nat.zero_le _, Nat.zero_le _⟩ rfl (fun r3 hV => ?_)
    refine jj_if_ne (pc2 := 19) hC 22 dX10_cell_16 (by decide) rfl (fun h4 => ?_) (fun h4 => ?_)
    · have hV := hV.1 h4
      refine jj_aload_n (pc2 := 23) hC dX10_cell_22 rfl 0 rfl rfl ?_
      refine cg_M_now (pc2 := 26) hC hi_X10_cell_X10 lk_X10_cell_3 dX10_cell_23 rfl ?_
      refine jj_iload_n (pc2 := 27) hC dX10_cell_26 rfl 1 rfl rfl ?_
      by_cases h5 : a1 = 0
      · have hV := hV.1 h5
        refine jj_cVR (pc2 := 30) (wd := wc_d Y X cs ad) (g := g0) (rest := []) hC (Y.length + 3) (jx_at (V := wc_W cs ad g0) rfl) rfl rfl (kc_X4_cellsOf_oldCells l D cs Y X ad a1 g0 h5) (cwV 1 hC.1.2.2.2.2 gX10_cell_X4_cellsOf rfl rfl rfl (by decide +kernel) ⟨by decide, by decide⟩) rfl (Nat.le_of_ble_eq_true rfl) _ rfl dX10_cell_27 ⟨Nat.zero_le _, Nat.zero_le _⟩ rfl ?_
        refine jj_iload_n (pc2 := 31) hC dX10_cell_30 rfl 2 rfl rfl ?_
        refine jj_bipush (pc2 := 33) hC 8 dX10_cell_31 (by decide) rfl ?_
        refine jj_imul (pc2 := 34) hC dX10_cell_33 rfl ?_
        refine jj_iload_n (pc2 := 35) hC dX10_cell_34 rfl 3 rfl rfl ?_
        refine jj_iadd (pc2 := 36) hC dX10_cell_35 rfl ?_
        refine cl_H_oldCells (pc2 := 37) hC hV.1 dX10_cell_36 rfl ?_
        have hV := hV.2
        exact jj_iret hC dX10_cell_37 ⟨hV, rfl⟩
      · have hV := hV.2 h5
        refine jj_cVR (pc2 := 30) (wd := wc_d Y X cs ad) (g := g0) (rest := []) hC (Y.length + 3) (jx_at (V := wc_W cs ad g0) rfl) rfl rfl (kc_X4_cellsOf_newCells l D cs Y X ad a1 g0 h5) (cwV 1 hC.1.2.2.2.2 gX10_cell_X4_cellsOf rfl rfl rfl (by decide +kernel) ⟨by decide, by decide⟩) rfl (Nat.le_of_ble_eq_true rfl) _ rfl dX10_cell_27 ⟨Nat.zero_le _, Nat.zero_le _⟩ rfl ?_
        refine jj_iload_n (pc2 := 31) hC dX10_cell_30 rfl 2 rfl rfl ?_
        refine jj_bipush (pc2 := 33) hC 8 dX10_cell_31 (by decide) rfl ?_
        refine jj_imul (pc2 := 34) hC dX10_cell_33 rfl ?_
        refine jj_iload_n (pc2 := 35) hC dX10_cell_34 rfl 3 rfl rfl ?_
        refine jj_iadd (pc2 := 36) hC dX10_cell_35 rfl ?_
        refine cl_H_newCells (pc2 := 37) hC hV.1 dX10_cell_36 rfl ?_
        have hV := hV.2
        exact jj_iret hC dX10_cell_37 ⟨hV, rfl⟩
    · have hV := hV.2 h4
      refine jj_ldc (pc2 := 21) hC lk_X10_cell_2 dX10_cell_19 rfl ?_
      exact jj_iret hC dX10_cell_21 ⟨hV, rfl⟩
theorem hi_X10_counted_X4 : ∀ w ∈ u_ws RX4 TX4 11, w ∈ wsX10_counted := fun _ h => List.mem_cons_of_mem _ (List.mem_append_left _ (List.mem_append_right _ h))
theorem lk_X10_counted_3 : Cond.fieldLink RX10 154 "PartedHouse$Houses" "counts" "[I" ∈ wsX10_counted := List.mem_of_getElem? (i := 3) rfl
theorem hi_X10_counted_X10 : ∀ w ∈ u_ws RX10 TX10 13, w ∈ wsX10_counted := fun _ h => List.mem_cons_of_mem _ (List.mem_append_left _ (List.mem_append_left _ (List.mem_append_right _ h)))
theorem lk_X10_counted_2 : Cond.fieldLink RX10 26 "PartedHouse" "now" "LPartedHouse$Houses;" ∈ wsX10_counted := List.mem_of_getElem? (i := 2) rfl
theorem lk_X10_counted_1 : Cond.fieldLink RX10 12 "PartedHouse" "text" "LPartedHouse$Text;" ∈ wsX10_counted := List.mem_of_getElem? (i := 1) rfl
abbrev rm_X10_counted : Room := { frames := 2, cells := 0, slots := 0, locals := 44 }
def vc_X10_counted (a1 : Int32) (a2 : Int32) (a3 : Int32) (g0 : cm_M) (Post : Int32 → Prop) : Prop := vc_X9_hasTiePlace a1 a2 a3 g0 (fun (r1 : Int32) => ((r1 = 0) → (Post (-1))) ∧ ((¬ r1 = 0) → (vc_X10_tiePlace a1 a2 a3 g0 (fun (r3 : Int32) => (vp_in r3 420) ∧ (Post (g0.2.2 28 r3.toNatClampNeg))))))
set_option maxHeartbeats 4000000 in
set_option maxRecDepth 100000 in
theorem kc_X10_counted (l : Launch) (D : va_G) (cs : Nat → ClassId) (Y X : va_W) (ad : Nat → Nat) (a1 : Int32) (a2 : Int32) (a3 : Int32) (g0 : cm_M) (Post : Int32 → Prop) (hV : vc_X10_counted a1 a2 a3 g0 Post) : JI (wc_d Y X cs ad) D vwCl (jt_tys cs) l yX10_counted wsX10_counted rm_X10_counted 0 0 [.ref (ad 0), .int a1, .int a2, .int a3] g0 (fun r g2 => Post r ∧ g2 = g0) := by
  refine jj_metI (cc := cX10_counted) (nL := 4) (ret := (some .int)) (by decide) rfl (Nat.le_of_ble_eq_true rfl) [(0, .ref (ad 0)), (1, .int a1), (2, .int a2), (3, .int a3)] rfl ?_
  intro p e s m args below meth c hC hnm
  rw [vc_X10_counted] at hV
  refine jj_aload_n (pc2 := 1) hC dX10_counted_0 rfl 0 rfl rfl ?_
  refine cg_M_text (pc2 := 4) hC hi_X10_counted_X10 lk_X10_counted_1 dX10_counted_1 rfl ?_
  refine jj_iload_n (pc2 := 5) hC dX10_counted_4 rfl 1 rfl rfl ?_
  refine jj_iload_n (pc2 := 6) hC dX10_counted_5 rfl 2 rfl rfl ?_
  refine jj_iload_n (pc2 := 7) hC dX10_counted_6 rfl 3 rfl rfl ?_
  refine jj_cVIp (pc2 := 10) (wd := wc_d Y X cs ad) (g := g0) (rest := []) hC (Y.length + 1) (jx_at (V := wc_W cs ad g0) rfl) rfl rfl (kc_X9_hasTiePlace l D cs Y X ad a1 a2 a3 g0 _ hV) (cwV 3 hC.1.2.2.2.2 gX10_counted_X9_hasTiePlace rfl rfl rfl (by decide +kernel) ⟨by decide, by decide⟩) rfl (Nat.le_of_ble_eq_true rfl) _ rfl dX10_counted_7 ⟨Nat.zero_le _, Nat.zero_le _⟩ rfl (fun r1 hV => ?_)
  refine jj_if_eq (pc2 := 13) hC 30 dX10_counted_10 (by decide) rfl (fun h2 => ?_) (fun h2 => ?_)
  · have hV := hV.1 h2
    refine jj_iconst (pc2 := 31) hC (-1) dX10_counted_30 (by decide) rfl ?_
    exact jj_iret hC dX10_counted_31 ⟨hV, rfl⟩
  · have hV := hV.2 h2
    refine jj_aload_n (pc2 := 14) hC dX10_counted_13 rfl 0 rfl rfl ?_
    refine cg_M_now (pc2 := 17) hC hi_X10_counted_X10 lk_X10_counted_2 dX10_counted_14 rfl ?_
    refine cg_H_counts (pc2 := 20) hC hi_X10_counted_X4 lk_X10_counted_3 dX10_counted_17 rfl ?_
    refine jj_iload_n (pc2 := 21) hC dX10_counted_20 rfl 1 rfl rfl ?_
    refine jj_iload_n (pc2 := 22) hC dX10_counted_21 rfl 2 rfl rfl ?_
    refine jj_iload_n (pc2 := 23) hC dX10_counted_22 rfl 3 rfl rfl ?_
    refine jj_cSIp (pc2 := 26) (wd := wc_d Y X cs ad) (g := g0) (rest := [.ref (ad 33)]) hC (kc_X10_tiePlace l D cs Y X ad a1 a2 a3 g0 _ hV) (va_cwS 3 hC.1.2.2.2.2 gX10_counted_X10_tiePlace rfl rfl rfl (by decide +kernel) ⟨by decide, by decide⟩) rfl (Nat.le_of_ble_eq_true rfl) _ rfl dX10_counted_23 ⟨Nat.zero_le _, Nat.zero_le _⟩ rfl (fun r3 hV => ?_)
    refine cl_H_counts (pc2 := 27) hC hV.1 dX10_counted_26 rfl ?_
    have hV := hV.2
    refine jj_goto hC 31 dX10_counted_27 (by decide) ?_
    exact jj_iret hC dX10_counted_31 ⟨hV, rfl⟩
theorem hi_X10_tied_X9 : ∀ w ∈ u_ws RX9 TX9 11, w ∈ wsX10_tied := fun _ h => List.mem_cons_of_mem _ (List.mem_append_right _ h)
theorem lk_X10_tied_2 : Cond.fieldLink RX10 161 "PartedHouse$Text" "ties" "[I" ∈ wsX10_tied := List.mem_of_getElem? (i := 2) rfl
theorem hi_X10_tied_X10 : ∀ w ∈ u_ws RX10 TX10 13, w ∈ wsX10_tied := fun _ h => List.mem_cons_of_mem _ (List.mem_append_left _ (List.mem_append_right _ h))
theorem lk_X10_tied_1 : Cond.fieldLink RX10 12 "PartedHouse" "text" "LPartedHouse$Text;" ∈ wsX10_tied := List.mem_of_getElem? (i := 1) rfl
abbrev rm_X10_tied : Room := { frames := 2, cells := 0, slots := 0, locals := 44 }
def vc_X10_tied (a1 : Int32) (a2 : Int32) (a3 : Int32) (g0 : cm_M) (Post : Int32 → Prop) : Prop := vc_X9_hasTiePlace a1 a2 a3 g0 (fun (r1 : Int32) => ((¬ r1 = 0) → (vc_X10_tiePlace a1 a2 a3 g0 (fun (r3 : Int32) => (vp_in r3 420) ∧ ((((g0.2.2 11 r3.toNatClampNeg) ≤ 0) → (Post 0)) ∧ ((¬ (g0.2.2 11 r3.toNatClampNeg) ≤ 0) → (Post 1)))))) ∧ ((r1 = 0) → (Post (-1))))
set_option maxHeartbeats 4000000 in
set_option maxRecDepth 100000 in
theorem kc_X10_tied (l : Launch) (D : va_G) (cs : Nat → ClassId) (Y X : va_W) (ad : Nat → Nat) (a1 : Int32) (a2 : Int32) (a3 : Int32) (g0 : cm_M) (Post : Int32 → Prop) (hV : vc_X10_tied a1 a2 a3 g0 Post) : JI (wc_d Y X cs ad) D vwCl (jt_tys cs) l yX10_tied wsX10_tied rm_X10_tied 0 0 [.ref (ad 0), .int a1, .int a2, .int a3] g0 (fun r g2 => Post r ∧ g2 = g0) := by
  refine jj_metI (cc := cX10_tied) (nL := 4) (ret := (some .int)) (by decide) rfl (Nat.le_of_ble_eq_true rfl) [(0, .ref (ad 0)), (1, .int a1), (2, .int a2), (3, .int a3)] rfl ?_
  intro p e s m args below meth c hC hnm
  rw [vc_X10_tied] at hV
  refine jj_aload_n (pc2 := 1) hC dX10_tied_0 rfl 0 rfl rfl ?_
  refine cg_M_text (pc2 := 4) hC hi_X10_tied_X10 lk_X10_tied_1 dX10_tied_1 rfl ?_
  refine jj_iload_n (pc2 := 5) hC dX10_tied_4 rfl 1 rfl rfl ?_
  refine jj_iload_n (pc2 := 6) hC dX10_tied_5 rfl 2 rfl rfl ?_
  refine jj_iload_n (pc2 := 7) hC dX10_tied_6 rfl 3 rfl rfl ?_
  refine jj_cVIp (pc2 := 10) (wd := wc_d Y X cs ad) (g := g0) (rest := []) hC (Y.length + 1) (jx_at (V := wc_W cs ad g0) rfl) rfl rfl (kc_X9_hasTiePlace l D cs Y X ad a1 a2 a3 g0 _ hV) (cwV 3 hC.1.2.2.2.2 gX10_tied_X9_hasTiePlace rfl rfl rfl (by decide +kernel) ⟨by decide, by decide⟩) rfl (Nat.le_of_ble_eq_true rfl) _ rfl dX10_tied_7 ⟨Nat.zero_le _, Nat.zero_le _⟩ rfl (fun r1 hV => ?_)
  refine jj_if_ne (pc2 := 13) hC 15 dX10_tied_10 (by decide) rfl (fun h2 => ?_) (fun h2 => ?_)
  · have hV := hV.1 h2
    refine jj_aload_n (pc2 := 16) hC dX10_tied_15 rfl 0 rfl rfl ?_
    refine cg_M_text (pc2 := 19) hC hi_X10_tied_X10 lk_X10_tied_1 dX10_tied_16 rfl ?_
    refine cg_T_ties (pc2 := 22) hC hi_X10_tied_X9 lk_X10_tied_2 dX10_tied_19 rfl ?_
    refine jj_iload_n (pc2 := 23) hC dX10_tied_22 rfl 1 rfl rfl ?_
    refine jj_iload_n (pc2 := 24) hC dX10_tied_23 rfl 2 rfl rfl ?_
    refine jj_iload_n (pc2 := 25) hC dX10_tied_24 rfl 3 rfl rfl ?_
    refine jj_cSIp (pc2 := 28) (wd := wc_d Y X cs ad) (g := g0) (rest := [.ref (ad 23)]) hC (kc_X10_tiePlace l D cs Y X ad a1 a2 a3 g0 _ hV) (va_cwS 3 hC.1.2.2.2.2 gX10_tied_X10_tiePlace rfl rfl rfl (by decide +kernel) ⟨by decide, by decide⟩) rfl (Nat.le_of_ble_eq_true rfl) _ rfl dX10_tied_25 ⟨Nat.zero_le _, Nat.zero_le _⟩ rfl (fun r3 hV => ?_)
    refine cl_T_ties (pc2 := 29) hC hV.1 dX10_tied_28 rfl ?_
    have hV := hV.2
    refine jj_if_le (pc2 := 32) hC 36 dX10_tied_29 (by decide) rfl (fun h4 => ?_) (fun h4 => ?_)
    · have hV := hV.1 h4
      refine jj_iconst (pc2 := 37) hC 0 dX10_tied_36 (by decide) rfl ?_
      exact jj_iret hC dX10_tied_37 ⟨hV, rfl⟩
    · have hV := hV.2 h4
      refine jj_iconst (pc2 := 33) hC 1 dX10_tied_32 (by decide) rfl ?_
      refine jj_goto hC 37 dX10_tied_33 (by decide) ?_
      exact jj_iret hC dX10_tied_37 ⟨hV, rfl⟩
  · have hV := hV.2 h2
    refine jj_iconst (pc2 := 14) hC (-1) dX10_tied_13 (by decide) rfl ?_
    exact jj_iret hC dX10_tied_14 ⟨hV, rfl⟩
theorem hi_X10_room_X4 : ∀ w ∈ u_ws RX4 TX4 11, w ∈ wsX10_room := fun _ h => List.mem_cons_of_mem _ (List.mem_append_left _ (List.mem_append_left _ (List.mem_append_right _ h)))
theorem lk_X10_room_5 : Cond.fieldLink RX10 173 "PartedHouse$Houses" "rooms" "[I" ∈ wsX10_room := List.mem_of_getElem? (i := 5) rfl
theorem hi_X10_room_X10 : ∀ w ∈ u_ws RX10 TX10 13, w ∈ wsX10_room := fun _ h => List.mem_cons_of_mem _ (List.mem_append_left _ (List.mem_append_left _ (List.mem_append_left _ (List.mem_append_right _ h))))
theorem lk_X10_room_2 : Cond.fieldLink RX10 26 "PartedHouse" "now" "LPartedHouse$Houses;" ∈ wsX10_room := List.mem_of_getElem? (i := 2) rfl
theorem hi_X10_room_X6 : ∀ w ∈ u_ws RX6 TX6 5, w ∈ wsX10_room := fun _ h => List.mem_cons_of_mem _ (List.mem_append_left _ (List.mem_append_right _ h))
theorem lk_X10_room_4 : Cond.fieldLink RX10 168 "PartedHouse$Letters" "waits" "I" ∈ wsX10_room := List.mem_of_getElem? (i := 4) rfl
theorem lk_X10_room_3 : Cond.fieldLink RX10 164 "PartedHouse$Houses" "letters" "LPartedHouse$Letters;" ∈ wsX10_room := List.mem_of_getElem? (i := 3) rfl
theorem lk_X10_room_1 : Cond.fieldLink RX10 12 "PartedHouse" "text" "LPartedHouse$Text;" ∈ wsX10_room := List.mem_of_getElem? (i := 1) rfl
abbrev rm_X10_room : Room := { frames := 1, cells := 0, slots := 0, locals := 21 }
def vc_X10_room (a1 : Int32) (a2 : Int32) (g0 : cm_M) (Post : Int32 → cm_M → Prop) : Prop := vc_X9_hasModule a1 g0 (fun (r1 : Int32) => ((r1 = 0) → (Post (-1) g0)) ∧ ((¬ r1 = 0) → (((a2 < 0) → (Post (-1) g0)) ∧ ((¬ a2 < 0) → (((a2 < 6) → ((((g0.2.2 41 0) ≤ 0) → ((vp_in a1 10) ∧ (∀ y6 : Int32, y6 = g0.2.2 27 a1.toNatClampNeg → ((vp_in a1 10) ∧ (∀ g7 : cm_M, g7 = cm_a g0 27 a1 a2 → (Post y6 g7)))))) ∧ ((¬ (g0.2.2 41 0) ≤ 0) → (Post (-2) g0)))) ∧ ((¬ a2 < 6) → (Post (-1) g0)))))))
set_option maxHeartbeats 4000000 in
set_option maxRecDepth 100000 in
theorem kc_X10_room (l : Launch) (D : va_G) (cs : Nat → ClassId) (Y X : va_W) (ad : Nat → Nat) (a1 : Int32) (a2 : Int32) (g0 : cm_M) (Post : Int32 → cm_M → Prop) (hV : vc_X10_room a1 a2 g0 Post) : JI (wc_d Y X cs ad) D vwCl (jt_tys cs) l yX10_room wsX10_room rm_X10_room 0 0 [.ref (ad 0), .int a1, .int a2] g0 Post := by
  refine jj_metI (cc := cX10_room) (nL := 4) (ret := (some .int)) (by decide) rfl (Nat.le_of_ble_eq_true rfl) [(0, .ref (ad 0)), (1, .int a1), (2, .int a2)] rfl ?_
  intro p e s m args below meth c hC hnm
  rw [vc_X10_room] at hV
  refine jj_aload_n (pc2 := 1) hC dX10_room_0 rfl 0 rfl rfl ?_
  refine cg_M_text (pc2 := 4) hC hi_X10_room_X10 lk_X10_room_1 dX10_room_1 rfl ?_
  refine jj_iload_n (pc2 := 5) hC dX10_room_4 rfl 1 rfl rfl ?_
  refine jj_cVIp (pc2 := 8) (wd := wc_d Y X cs ad) (g := g0) (rest := []) hC (Y.length + 1) (jx_at (V := wc_W cs ad g0) rfl) rfl rfl (kc_X9_hasModule l D cs Y X ad a1 g0 _ hV) (cwV 1 hC.1.2.2.2.2 gX10_room_X9_hasModule rfl rfl rfl (by decide +kernel) ⟨by decide, by decide⟩) rfl (Nat.le_of_ble_eq_true rfl) _ rfl dX10_room_5 ⟨Nat.zero_le _, Nat.zero_le _⟩ rfl (fun r1 hV => ?_)
  refine jj_if_eq (pc2 := 11) hC 21 dX10_room_8 (by decide) rfl (fun h2 => ?_) (fun h2 => ?_)
  · have hV := hV.1 h2
    refine jj_iconst (pc2 := 22) hC (-1) dX10_room_21 (by decide) rfl ?_
    exact jj_iret hC dX10_room_22 hV
  · have hV := hV.2 h2
    refine jj_iload_n (pc2 := 12) hC dX10_room_11 rfl 2 rfl rfl ?_
    refine jj_if_lt (pc2 := 15) hC 21 dX10_room_12 (by decide) rfl (fun h3 => ?_) (fun h3 => ?_)
    · have hV := hV.1 h3
      refine jj_iconst (pc2 := 22) hC (-1) dX10_room_21 (by decide) rfl ?_
      exact jj_iret hC dX10_room_22 hV
    · have hV := hV.2 h3
      refine jj_iload_n (pc2 := 16) hC dX10_room_15 rfl 2 rfl rfl ?_
      refine jj_bipush (pc2 := 18) hC 6 dX10_room_16 (by decide) rfl ?_
      refine jj_icmp_lt (pc2 := 21) hC 23 dX10_room_18 (by decide) rfl (fun h4 => ?_) (fun h4 => ?_)
      · have hV := hV.1 h4
        refine jj_aload_n (pc2 := 24) hC dX10_room_23 rfl 0 rfl rfl ?_
        refine cg_M_now (pc2 := 27) hC hi_X10_room_X10 lk_X10_room_2 dX10_room_24 rfl ?_
        refine cg_H_letters (pc2 := 30) hC hi_X10_room_X4 lk_X10_room_3 dX10_room_27 rfl ?_
        refine cg_L_waits (pc2 := 33) hC hi_X10_room_X6 lk_X10_room_4 dX10_room_30 rfl ?_
        refine jj_if_le (pc2 := 36) hC 39 dX10_room_33 (by decide) rfl (fun h5 => ?_) (fun h5 => ?_)
        · have hV := hV.1 h5
          refine jj_aload_n (pc2 := 40) hC dX10_room_39 rfl 0 rfl rfl ?_
          refine cg_M_now (pc2 := 43) hC hi_X10_room_X10 lk_X10_room_2 dX10_room_40 rfl ?_
          refine cg_H_rooms (pc2 := 46) hC hi_X10_room_X4 lk_X10_room_5 dX10_room_43 rfl ?_
          refine jj_iload_n (pc2 := 47) hC dX10_room_46 rfl 1 rfl rfl ?_
          refine cl_H_rooms (pc2 := 48) hC hV.1 dX10_room_47 rfl ?_
          have hV := hV.2
          refine jj_topi (fun y6 ey6 => ?_)
          have hV := hV y6 ey6
          refine jj_istore_n (pc2 := 49) hC [(3, .int y6), (0, .ref (ad 0)), (1, .int a1), (2, .int a2)] dX10_room_48 rfl (by decide) rfl rfl ?_
          refine jj_aload_n (pc2 := 50) hC dX10_room_49 rfl 1 rfl rfl ?_
          refine cg_M_now (pc2 := 53) hC hi_X10_room_X10 lk_X10_room_2 dX10_room_50 rfl ?_
          refine cg_H_rooms (pc2 := 56) hC hi_X10_room_X4 lk_X10_room_5 dX10_room_53 rfl ?_
          refine jj_iload_n (pc2 := 57) hC dX10_room_56 rfl 2 rfl rfl ?_
          refine jj_iload_n (pc2 := 58) hC dX10_room_57 rfl 3 rfl rfl ?_
          refine ct_H_rooms (pc2 := 59) hC hV.1 dX10_room_58 rfl (fun g7 eg7 => ?_)
          have hV := hV.2 g7 eg7
          refine jj_iload_n (pc2 := 60) hC dX10_room_59 rfl 0 rfl rfl ?_
          exact jj_iret hC dX10_room_60 hV
        · have hV := hV.2 h5
          refine jj_bipush (pc2 := 38) hC (-2) dX10_room_36 (by decide) rfl ?_
          exact jj_iret hC dX10_room_38 hV
      · have hV := hV.2 h4
        refine jj_iconst (pc2 := 22) hC (-1) dX10_room_21 (by decide) rfl ?_
        exact jj_iret hC dX10_room_22 hV
theorem hi_X10_weight_X10 : ∀ w ∈ u_ws RX10 TX10 13, w ∈ wsX10_weight := fun _ h => List.mem_cons_of_mem _ (List.mem_append_right _ h)
theorem lk_X10_weight_1 : Cond.fieldLink RX10 41 "PartedHouse" "weights" "[I" ∈ wsX10_weight := List.mem_of_getElem? (i := 1) rfl
abbrev rm_X10_weight : Room := { frames := 0, cells := 0, slots := 0, locals := 0 }
def vc_X10_weight (a1 : Int32) (a2 : Int32) (g0 : cm_M) (Post : Int32 → cm_M → Prop) : Prop := ((a1 < 0) → (Post (-1) g0)) ∧ ((¬ a1 < 0) → (((4 ≤ a1) → (Post (-1) g0)) ∧ ((¬ 4 ≤ a1) → (((a2 < 0) → (Post (-1) g0)) ∧ ((¬ a2 < 0) → (((a2 ≤ 99) → ((vp_in a1 4) ∧ (∀ y5 : Int32, y5 = g0.2.2 2 a1.toNatClampNeg → ((vp_in a1 4) ∧ (∀ g6 : cm_M, g6 = cm_a g0 2 a1 a2 → (Post y5 g6)))))) ∧ ((¬ a2 ≤ 99) → (Post (-1) g0))))))))
set_option maxHeartbeats 4000000 in
set_option maxRecDepth 100000 in
theorem kc_X10_weight (l : Launch) (D : va_G) (cs : Nat → ClassId) (Y X : va_W) (ad : Nat → Nat) (a1 : Int32) (a2 : Int32) (g0 : cm_M) (Post : Int32 → cm_M → Prop) (hV : vc_X10_weight a1 a2 g0 Post) : JI (wc_d Y X cs ad) D vwCl (jt_tys cs) l yX10_weight wsX10_weight rm_X10_weight 0 0 [.ref (ad 0), .int a1, .int a2] g0 Post := by
  refine jj_metI (cc := cX10_weight) (nL := 4) (ret := (some .int)) (by decide) rfl (Nat.le_of_ble_eq_true rfl) [(0, .ref (ad 0)), (1, .int a1), (2, .int a2)] rfl ?_
  intro p e s m args below meth c hC hnm
  rw [vc_X10_weight] at hV
  refine jj_iload_n (pc2 := 1) hC dX10_weight_0 rfl 1 rfl rfl ?_
  refine jj_if_lt (pc2 := 4) hC 19 dX10_weight_1 (by decide) rfl (fun h1 => ?_) (fun h1 => ?_)
  · have hV := hV.1 h1
    refine jj_iconst (pc2 := 20) hC (-1) dX10_weight_19 (by decide) rfl ?_
    exact jj_iret hC dX10_weight_20 hV
  · have hV := hV.2 h1
    refine jj_iload_n (pc2 := 5) hC dX10_weight_4 rfl 1 rfl rfl ?_
    refine jj_iconst (pc2 := 6) hC 4 dX10_weight_5 (by decide) rfl ?_
    refine jj_icmp_ge (pc2 := 9) hC 19 dX10_weight_6 (by decide) rfl (fun h2 => ?_) (fun h2 => ?_)
    · have hV := hV.1 h2
      refine jj_iconst (pc2 := 20) hC (-1) dX10_weight_19 (by decide) rfl ?_
      exact jj_iret hC dX10_weight_20 hV
    · have hV := hV.2 h2
      refine jj_iload_n (pc2 := 10) hC dX10_weight_9 rfl 2 rfl rfl ?_
      refine jj_if_lt (pc2 := 13) hC 19 dX10_weight_10 (by decide) rfl (fun h3 => ?_) (fun h3 => ?_)
      · have hV := hV.1 h3
        refine jj_iconst (pc2 := 20) hC (-1) dX10_weight_19 (by decide) rfl ?_
        exact jj_iret hC dX10_weight_20 hV
      · have hV := hV.2 h3
        refine jj_iload_n (pc2 := 14) hC dX10_weight_13 rfl 2 rfl rfl ?_
        refine jj_bipush (pc2 := 16) hC 99 dX10_weight_14 (by decide) rfl ?_
        refine jj_icmp_le (pc2 := 19) hC 21 dX10_weight_16 (by decide) rfl (fun h4 => ?_) (fun h4 => ?_)
        · have hV := hV.1 h4
          refine jj_aload_n (pc2 := 22) hC dX10_weight_21 rfl 0 rfl rfl ?_
          refine cg_M_weights (pc2 := 25) hC hi_X10_weight_X10 lk_X10_weight_1 dX10_weight_22 rfl ?_
          refine jj_iload_n (pc2 := 26) hC dX10_weight_25 rfl 1 rfl rfl ?_
          refine cl_M_weights (pc2 := 27) hC hV.1 dX10_weight_26 rfl ?_
          have hV := hV.2
          refine jj_topi (fun y5 ey5 => ?_)
          have hV := hV y5 ey5
          refine jj_istore_n (pc2 := 28) hC [(3, .int y5), (0, .ref (ad 0)), (1, .int a1), (2, .int a2)] dX10_weight_27 rfl (by decide) rfl rfl ?_
          refine jj_aload_n (pc2 := 29) hC dX10_weight_28 rfl 1 rfl rfl ?_
          refine cg_M_weights (pc2 := 32) hC hi_X10_weight_X10 lk_X10_weight_1 dX10_weight_29 rfl ?_
          refine jj_iload_n (pc2 := 33) hC dX10_weight_32 rfl 2 rfl rfl ?_
          refine jj_iload_n (pc2 := 34) hC dX10_weight_33 rfl 3 rfl rfl ?_
          refine ct_M_weights (pc2 := 35) hC hV.1 dX10_weight_34 rfl (fun g6 eg6 => ?_)
          have hV := hV.2 g6 eg6
          refine jj_iload_n (pc2 := 36) hC dX10_weight_35 rfl 0 rfl rfl ?_
          exact jj_iret hC dX10_weight_36 hV
        · have hV := hV.2 h4
          refine jj_iconst (pc2 := 20) hC (-1) dX10_weight_19 (by decide) rfl ?_
          exact jj_iret hC dX10_weight_20 hV
theorem hi_X10_tell_X10 : ∀ w ∈ u_ws RX10 TX10 13, w ∈ wsX10_tell := fun _ h => List.mem_cons_of_mem _ (List.mem_append_left _ (List.mem_append_right _ h))
theorem lk_X10_tell_2 : Cond.fieldLink RX10 50 "PartedHouse" "told" "[I" ∈ wsX10_tell := List.mem_of_getElem? (i := 2) rfl
theorem lk_X10_tell_1 : Cond.fieldLink RX10 12 "PartedHouse" "text" "LPartedHouse$Text;" ∈ wsX10_tell := List.mem_of_getElem? (i := 1) rfl
abbrev rm_X10_tell : Room := { frames := 1, cells := 0, slots := 0, locals := 21 }
def vc_X10_tell (a1 : Int32) (a2 : Int32) (a3 : Int32) (g0 : cm_M) (Post : Int32 → cm_M → Prop) : Prop := vc_X9_hasModule a1 g0 (fun (r1 : Int32) => ((r1 = 0) → (Post (-1) g0)) ∧ ((¬ r1 = 0) → (vc_X9_hasModule a2 g0 (fun (r3 : Int32) => ((r3 = 0) → (Post (-1) g0)) ∧ ((¬ r3 = 0) → (((a1 = a2) → (Post (-1) g0)) ∧ ((¬ a1 = a2) → (((a3 < 0) → (Post (-1) g0)) ∧ ((¬ a3 < 0) → (((a3 ≤ 2) → ((vp_in ((a1 * 10) + a2) 100) ∧ (∀ y8 : Int32, y8 = g0.2.2 3 ((a1 * 10) + a2).toNatClampNeg → ((vp_in ((a1 * 10) + a2) 100) ∧ (∀ g9 : cm_M, g9 = cm_a g0 3 ((a1 * 10) + a2) a3 → ((vp_in ((a2 * 10) + a1) 100) ∧ (∀ g10 : cm_M, g10 = cm_a g9 3 ((a2 * 10) + a1) a3 → (Post y8 g10)))))))) ∧ ((¬ a3 ≤ 2) → (Post (-1) g0))))))))))))
set_option maxHeartbeats 4000000 in
set_option maxRecDepth 100000 in
theorem kc_X10_tell (l : Launch) (D : va_G) (cs : Nat → ClassId) (Y X : va_W) (ad : Nat → Nat) (a1 : Int32) (a2 : Int32) (a3 : Int32) (g0 : cm_M) (Post : Int32 → cm_M → Prop) (hV : vc_X10_tell a1 a2 a3 g0 Post) : JI (wc_d Y X cs ad) D vwCl (jt_tys cs) l yX10_tell wsX10_tell rm_X10_tell 0 0 [.ref (ad 0), .int a1, .int a2, .int a3] g0 Post := by
  refine jj_metI (cc := cX10_tell) (nL := 5) (ret := (some .int)) (by decide) rfl (Nat.le_of_ble_eq_true rfl) [(0, .ref (ad 0)), (1, .int a1), (2, .int a2), (3, .int a3)] rfl ?_
  intro p e s m args below meth c hC hnm
  rw [vc_X10_tell] at hV
  refine jj_aload_n (pc2 := 1) hC dX10_tell_0 rfl 0 rfl rfl ?_
  refine cg_M_text (pc2 := 4) hC hi_X10_tell_X10 lk_X10_tell_1 dX10_tell_1 rfl ?_
  refine jj_iload_n (pc2 := 5) hC dX10_tell_4 rfl 1 rfl rfl ?_
  refine jj_cVIp (pc2 := 8) (wd := wc_d Y X cs ad) (g := g0) (rest := []) hC (Y.length + 1) (jx_at (V := wc_W cs ad g0) rfl) rfl rfl (kc_X9_hasModule l D cs Y X ad a1 g0 _ hV) (cwV 1 hC.1.2.2.2.2 gX10_tell_X9_hasModule rfl rfl rfl (by decide +kernel) ⟨by decide, by decide⟩) rfl (Nat.le_of_ble_eq_true rfl) _ rfl dX10_tell_5 ⟨Nat.zero_le _, Nat.zero_le _⟩ rfl (fun r1 hV => ?_)
  refine jj_if_eq (pc2 := 11) hC 36 dX10_tell_8 (by decide) rfl (fun h2 => ?_) (fun h2 => ?_)
  · have hV := hV.1 h2
    refine jj_iconst (pc2 := 37) hC (-1) dX10_tell_36 (by decide) rfl ?_
    exact jj_iret hC dX10_tell_37 hV
  · have hV := hV.2 h2
    refine jj_aload_n (pc2 := 12) hC dX10_tell_11 rfl 0 rfl rfl ?_
    refine cg_M_text (pc2 := 15) hC hi_X10_tell_X10 lk_X10_tell_1 dX10_tell_12 rfl ?_
    refine jj_iload_n (pc2 := 16) hC dX10_tell_15 rfl 2 rfl rfl ?_
    refine jj_cVIp (pc2 := 19) (wd := wc_d Y X cs ad) (g := g0) (rest := []) hC (Y.length + 1) (jx_at (V := wc_W cs ad g0) rfl) rfl rfl (kc_X9_hasModule l D cs Y X ad a2 g0 _ hV) (cwV 1 hC.1.2.2.2.2 gX10_tell_X9_hasModule rfl rfl rfl (by decide +kernel) ⟨by decide, by decide⟩) rfl (Nat.le_of_ble_eq_true rfl) _ rfl dX10_tell_16 ⟨Nat.zero_le _, Nat.zero_le _⟩ rfl (fun r3 hV => ?_)
    refine jj_if_eq (pc2 := 22) hC 36 dX10_tell_19 (by decide) rfl (fun h4 => ?_) (fun h4 => ?_)
    · have hV := hV.1 h4
      refine jj_iconst (pc2 := 37) hC (-1) dX10_tell_36 (by decide) rfl ?_
      exact jj_iret hC dX10_tell_37 hV
    · have hV := hV.2 h4
      refine jj_iload_n (pc2 := 23) hC dX10_tell_22 rfl 1 rfl rfl ?_
      refine jj_iload_n (pc2 := 24) hC dX10_tell_23 rfl 2 rfl rfl ?_
      refine jj_icmp_eq (pc2 := 27) hC 36 dX10_tell_24 (by decide) rfl (fun h5 => ?_) (fun h5 => ?_)
      · have hV := hV.1 h5
        refine jj_iconst (pc2 := 37) hC (-1) dX10_tell_36 (by decide) rfl ?_
        exact jj_iret hC dX10_tell_37 hV
      · have hV := hV.2 h5
        refine jj_iload_n (pc2 := 28) hC dX10_tell_27 rfl 3 rfl rfl ?_
        refine jj_if_lt (pc2 := 31) hC 36 dX10_tell_28 (by decide) rfl (fun h6 => ?_) (fun h6 => ?_)
        · have hV := hV.1 h6
          refine jj_iconst (pc2 := 37) hC (-1) dX10_tell_36 (by decide) rfl ?_
          exact jj_iret hC dX10_tell_37 hV
        · have hV := hV.2 h6
          refine jj_iload_n (pc2 := 32) hC dX10_tell_31 rfl 3 rfl rfl ?_
          refine jj_iconst (pc2 := 33) hC 2 dX10_tell_32 (by decide) rfl ?_
          refine jj_icmp_le (pc2 := 36) hC 38 dX10_tell_33 (by decide) rfl (fun h7 => ?_) (fun h7 => ?_)
          · have hV := hV.1 h7
            refine jj_aload_n (pc2 := 39) hC dX10_tell_38 rfl 0 rfl rfl ?_
            refine cg_M_told (pc2 := 42) hC hi_X10_tell_X10 lk_X10_tell_2 dX10_tell_39 rfl ?_
            refine jj_iload_n (pc2 := 43) hC dX10_tell_42 rfl 1 rfl rfl ?_
            refine jj_bipush (pc2 := 45) hC 10 dX10_tell_43 (by decide) rfl ?_
            refine jj_imul (pc2 := 46) hC dX10_tell_45 rfl ?_
            refine jj_iload_n (pc2 := 47) hC dX10_tell_46 rfl 2 rfl rfl ?_
            refine jj_iadd (pc2 := 48) hC dX10_tell_47 rfl ?_
            refine cl_M_told (pc2 := 49) hC hV.1 dX10_tell_48 rfl ?_
            have hV := hV.2
            refine jj_topi (fun y8 ey8 => ?_)
            have hV := hV y8 ey8
            refine jj_istore (pc2 := 51) hC [(4, .int y8), (0, .ref (ad 0)), (1, .int a1), (2, .int a2), (3, .int a3)] dX10_tell_49 (by decide) rfl rfl ?_
            refine jj_aload_n (pc2 := 52) hC dX10_tell_51 rfl 1 rfl rfl ?_
            refine cg_M_told (pc2 := 55) hC hi_X10_tell_X10 lk_X10_tell_2 dX10_tell_52 rfl ?_
            refine jj_iload_n (pc2 := 56) hC dX10_tell_55 rfl 2 rfl rfl ?_
            refine jj_bipush (pc2 := 58) hC 10 dX10_tell_56 (by decide) rfl ?_
            refine jj_imul (pc2 := 59) hC dX10_tell_58 rfl ?_
            refine jj_iload_n (pc2 := 60) hC dX10_tell_59 rfl 3 rfl rfl ?_
            refine jj_iadd (pc2 := 61) hC dX10_tell_60 rfl ?_
            refine jj_iload_n (pc2 := 62) hC dX10_tell_61 rfl 4 rfl rfl ?_
            refine ct_M_told (pc2 := 63) hC hV.1 dX10_tell_62 rfl (fun g9 eg9 => ?_)
            have hV := hV.2 g9 eg9
            refine jj_aload_n (pc2 := 64) hC dX10_tell_63 rfl 1 rfl rfl ?_
            refine cg_M_told (pc2 := 67) hC hi_X10_tell_X10 lk_X10_tell_2 dX10_tell_64 rfl ?_
            refine jj_iload_n (pc2 := 68) hC dX10_tell_67 rfl 3 rfl rfl ?_
            refine jj_bipush (pc2 := 70) hC 10 dX10_tell_68 (by decide) rfl ?_
            refine jj_imul (pc2 := 71) hC dX10_tell_70 rfl ?_
            refine jj_iload_n (pc2 := 72) hC dX10_tell_71 rfl 2 rfl rfl ?_
            refine jj_iadd (pc2 := 73) hC dX10_tell_72 rfl ?_
            refine jj_iload_n (pc2 := 74) hC dX10_tell_73 rfl 4 rfl rfl ?_
            refine ct_M_told (pc2 := 75) hC hV.1 dX10_tell_74 rfl (fun g10 eg10 => ?_)
            have hV := hV.2 g10 eg10
            refine jj_iload (pc2 := 77) hC dX10_tell_75 0 rfl rfl ?_
            exact jj_iret hC dX10_tell_77 hV
          · have hV := hV.2 h7
            refine jj_iconst (pc2 := 37) hC (-1) dX10_tell_36 (by decide) rfl ?_
            exact jj_iret hC dX10_tell_37 hV
theorem hi_X10_price_X4 : ∀ w ∈ u_ws RX4 TX4 11, w ∈ wsX10_price := fun _ h => List.mem_cons_of_mem _ (List.mem_append_left _ (List.mem_append_left _ (List.mem_append_left _ (List.mem_append_right _ h))))
theorem lk_X10_price_4 : Cond.fieldLink RX10 173 "PartedHouse$Houses" "rooms" "[I" ∈ wsX10_price := List.mem_of_getElem? (i := 4) rfl
theorem hi_X10_price_X10 : ∀ w ∈ u_ws RX10 TX10 13, w ∈ wsX10_price := fun _ h => List.mem_cons_of_mem _ (List.mem_append_left _ (List.mem_append_left _ (List.mem_append_left _ (List.mem_append_left _ (List.mem_append_right _ h)))))
theorem lk_X10_price_3 : Cond.fieldLink RX10 26 "PartedHouse" "now" "LPartedHouse$Houses;" ∈ wsX10_price := List.mem_of_getElem? (i := 3) rfl
theorem lk_X10_price_1 : Cond.fieldLink RX10 58 "PartedHouse" "prices" "LPartedHouse$Prices;" ∈ wsX10_price := List.mem_of_getElem? (i := 1) rfl
theorem lk_X10_price_2 : Cond.fieldLink RX10 41 "PartedHouse" "weights" "[I" ∈ wsX10_price := List.mem_of_getElem? (i := 2) rfl
abbrev rm_X10_price : Room := { frames := 3, cells := 0, slots := 0, locals := 69 }
def vc_X10_price (g0 : cm_M) (Post : Int64 → cm_M → Prop) : Prop := vc_X7_prepare g0 (fun (g2 : cm_M) => vc_X7_of g2 (fun (r3 : Int64) => Post r3 g2))
set_option maxHeartbeats 4000000 in
set_option maxRecDepth 100000 in
theorem kc_X10_price (l : Launch) (D : va_G) (cs : Nat → ClassId) (Y X : va_W) (ad : Nat → Nat) (g0 : cm_M) (Post : Int64 → cm_M → Prop) (hV : vc_X10_price g0 Post) : JL (wc_d Y X cs ad) D vwCl (jt_tys cs) l yX10_price wsX10_price rm_X10_price 0 0 [.ref (ad 0)] g0 Post := by
  refine jj_metL (cc := cX10_price) (nL := 1) (ret := (some .long)) (by decide) rfl (Nat.le_of_ble_eq_true rfl) [(0, .ref (ad 0))] rfl ?_
  intro p e s m args below meth c hC hnm
  rw [vc_X10_price] at hV
  refine jj_aload_n (pc2 := 1) hC dX10_price_0 rfl 0 rfl rfl ?_
  refine cg_M_prices (pc2 := 4) hC hi_X10_price_X10 lk_X10_price_1 dX10_price_1 rfl ?_
  refine jj_aload_n (pc2 := 5) hC dX10_price_4 rfl 0 rfl rfl ?_
  refine cg_M_weights (pc2 := 8) hC hi_X10_price_X10 lk_X10_price_2 dX10_price_5 rfl ?_
  refine jj_cVV (pc2 := 11) (wd := wc_d Y X cs ad) (g := g0) (rest := []) hC (Y.length + 6) (jx_at (V := wc_W cs ad g0) rfl) rfl rfl (kc_X7_prepare l D cs Y X ad  g0 _ hV) (cwV 1 hC.1.2.2.2.2 gX10_price_X7_prepare rfl rfl rfl (by decide +kernel) ⟨by decide, by decide⟩) rfl (Nat.le_of_ble_eq_true rfl) _ rfl dX10_price_8 ⟨Nat.zero_le _, Nat.zero_le _⟩ rfl (fun g2 hV => ?_)
  refine jj_aload_n (pc2 := 12) hC dX10_price_11 rfl 0 rfl rfl ?_
  refine cg_M_prices (pc2 := 15) hC hi_X10_price_X10 lk_X10_price_1 dX10_price_12 rfl ?_
  refine jj_aload_n (pc2 := 16) hC dX10_price_15 rfl 0 rfl rfl ?_
  refine cg_M_now (pc2 := 19) hC hi_X10_price_X10 lk_X10_price_3 dX10_price_16 rfl ?_
  refine cg_H_rooms (pc2 := 22) hC hi_X10_price_X4 lk_X10_price_4 dX10_price_19 rfl ?_
  refine jj_cVLp (pc2 := 25) (wd := wc_d Y X cs ad) (g := g2) (rest := []) hC (Y.length + 6) (jx_at (V := wc_W cs ad g2) rfl) rfl rfl (kc_X7_of l D cs Y X ad  g2 _ hV) (cwV 1 hC.1.2.2.2.2 gX10_price_X7_of rfl rfl rfl (by decide +kernel) ⟨by decide, by decide⟩) rfl (Nat.le_of_ble_eq_true rfl) _ rfl dX10_price_22 ⟨Nat.zero_le _, Nat.zero_le _⟩ rfl (fun r3 hV => ?_)
  exact jj_lret hC dX10_price_25 hV
theorem lk_X10_cut_1 : Cond.constantLong RX10 184 (-1) ∈ wsX10_cut := List.mem_of_getElem? (i := 1) rfl
theorem lk_X10_cut_10 : Cond.constantLong RX10 196 (-2) ∈ wsX10_cut := List.mem_of_getElem? (i := 10) rfl
theorem hi_X10_cut_X2 : ∀ w ∈ u_ws RX2 TX2 14, w ∈ wsX10_cut := fun _ h => List.mem_cons_of_mem _ (List.mem_append_left _ (List.mem_append_left _ (List.mem_append_right _ h)))
theorem lk_X10_cut_9 : Cond.fieldLink RX10 192 "PartedHouse$Cutter" "leastPrice" "J" ∈ wsX10_cut := List.mem_of_getElem? (i := 9) rfl
theorem hi_X10_cut_X10 : ∀ w ∈ u_ws RX10 TX10 13, w ∈ wsX10_cut := fun _ h => List.mem_cons_of_mem _ (List.mem_append_left _ (List.mem_append_left _ (List.mem_append_left _ (List.mem_append_left _ (List.mem_append_right _ h)))))
theorem lk_X10_cut_7 : Cond.fieldLink RX10 67 "PartedHouse" "cutter" "LPartedHouse$Cutter;" ∈ wsX10_cut := List.mem_of_getElem? (i := 7) rfl
theorem lk_X10_cut_8 : Cond.fieldLink RX10 50 "PartedHouse" "told" "[I" ∈ wsX10_cut := List.mem_of_getElem? (i := 8) rfl
theorem lk_X10_cut_6 : Cond.fieldLink RX10 41 "PartedHouse" "weights" "[I" ∈ wsX10_cut := List.mem_of_getElem? (i := 6) rfl
theorem lk_X10_cut_5 : Cond.fieldLink RX10 58 "PartedHouse" "prices" "LPartedHouse$Prices;" ∈ wsX10_cut := List.mem_of_getElem? (i := 5) rfl
theorem lk_X10_cut_4 : Cond.constantLong RX10 186 (-4) ∈ wsX10_cut := List.mem_of_getElem? (i := 4) rfl
theorem hi_X10_cut_X9 : ∀ w ∈ u_ws RX9 TX9 11, w ∈ wsX10_cut := fun _ h => List.mem_cons_of_mem _ (List.mem_append_left _ (List.mem_append_left _ (List.mem_append_left _ (List.mem_append_right _ h))))
theorem lk_X10_cut_3 : Cond.fieldLink RX10 92 "PartedHouse$Text" "modules" "I" ∈ wsX10_cut := List.mem_of_getElem? (i := 3) rfl
theorem lk_X10_cut_2 : Cond.fieldLink RX10 12 "PartedHouse" "text" "LPartedHouse$Text;" ∈ wsX10_cut := List.mem_of_getElem? (i := 2) rfl
abbrev rm_X10_cut : Room := { frames := 15, cells := 0, slots := 0, locals := 427 }
def vc_X10_cut (a1 : Int32) (a2 : Int32) (g0 : cm_M) (Post : Int64 → cm_M → Prop) : Prop := ((a1 < 1) → (Post (-1) g0)) ∧ ((¬ a1 < 1) → (((6 < a1) → (Post (-1) g0)) ∧ ((¬ 6 < a1) → (((a2 < 1) → (Post (-1) g0)) ∧ ((¬ a2 < 1) → (((a2 ≤ 9999) → ((((g0.2.2 12 0) ≤ 9) → (vc_X7_prepare g0 (fun (g7 : cm_M) => vc_X2_search a1 a2 g7 (fun (r8 : Int32) (g9 : cm_M) => ((r8 = 0) → (Post (-2) g9)) ∧ ((¬ r8 = 0) → (Post (g9.2.1 2 0) g9)))))) ∧ ((¬ (g0.2.2 12 0) ≤ 9) → (Post (-4) g0)))) ∧ ((¬ a2 ≤ 9999) → (Post (-1) g0))))))))
set_option maxHeartbeats 4000000 in
set_option maxRecDepth 100000 in
theorem kc_X10_cut (l : Launch) (D : va_G) (cs : Nat → ClassId) (Y X : va_W) (ad : Nat → Nat) (a1 : Int32) (a2 : Int32) (g0 : cm_M) (Post : Int64 → cm_M → Prop) (hV : vc_X10_cut a1 a2 g0 Post) : JL (wc_d Y X cs ad) D vwCl (jt_tys cs) l yX10_cut wsX10_cut rm_X10_cut 0 0 [.ref (ad 0), .int a1, .int a2] g0 Post := by
  refine jj_metL (cc := cX10_cut) (nL := 3) (ret := (some .long)) (by decide) rfl (Nat.le_of_ble_eq_true rfl) [(0, .ref (ad 0)), (1, .int a1), (2, .int a2)] rfl ?_
  intro p e s m args below meth c hC hnm
  rw [vc_X10_cut] at hV
  refine jj_iload_n (pc2 := 1) hC dX10_cut_0 rfl 1 rfl rfl ?_
  refine jj_iconst (pc2 := 2) hC 1 dX10_cut_1 (by decide) rfl ?_
  refine jj_icmp_lt (pc2 := 5) hC 23 dX10_cut_2 (by decide) rfl (fun h1 => ?_) (fun h1 => ?_)
  · have hV := hV.1 h1
    refine jj_ldc2 (pc2 := 26) hC lk_X10_cut_1 dX10_cut_23 rfl ?_
    exact jj_lret hC dX10_cut_26 hV
  · have hV := hV.2 h1
    refine jj_iload_n (pc2 := 6) hC dX10_cut_5 rfl 1 rfl rfl ?_
    refine jj_bipush (pc2 := 8) hC 6 dX10_cut_6 (by decide) rfl ?_
    refine jj_icmp_gt (pc2 := 11) hC 23 dX10_cut_8 (by decide) rfl (fun h2 => ?_) (fun h2 => ?_)
    · have hV := hV.1 h2
      refine jj_ldc2 (pc2 := 26) hC lk_X10_cut_1 dX10_cut_23 rfl ?_
      exact jj_lret hC dX10_cut_26 hV
    · have hV := hV.2 h2
      refine jj_iload_n (pc2 := 12) hC dX10_cut_11 rfl 2 rfl rfl ?_
      refine jj_iconst (pc2 := 13) hC 1 dX10_cut_12 (by decide) rfl ?_
      refine jj_icmp_lt (pc2 := 16) hC 23 dX10_cut_13 (by decide) rfl (fun h3 => ?_) (fun h3 => ?_)
      · have hV := hV.1 h3
        refine jj_ldc2 (pc2 := 26) hC lk_X10_cut_1 dX10_cut_23 rfl ?_
        exact jj_lret hC dX10_cut_26 hV
      · have hV := hV.2 h3
        refine jj_iload_n (pc2 := 17) hC dX10_cut_16 rfl 2 rfl rfl ?_
        refine jj_sipush (pc2 := 20) hC 9999 dX10_cut_17 (by decide) rfl ?_
        refine jj_icmp_le (pc2 := 23) hC 27 dX10_cut_20 (by decide) rfl (fun h4 => ?_) (fun h4 => ?_)
        · have hV := hV.1 h4
          refine jj_aload_n (pc2 := 28) hC dX10_cut_27 rfl 0 rfl rfl ?_
          refine cg_M_text (pc2 := 31) hC hi_X10_cut_X10 lk_X10_cut_2 dX10_cut_28 rfl ?_
          refine cg_T_modules (pc2 := 34) hC hi_X10_cut_X9 lk_X10_cut_3 dX10_cut_31 rfl ?_
          refine jj_bipush (pc2 := 36) hC 9 dX10_cut_34 (by decide) rfl ?_
          refine jj_icmp_le (pc2 := 39) hC 43 dX10_cut_36 (by decide) rfl (fun h5 => ?_) (fun h5 => ?_)
          · have hV := hV.1 h5
            refine jj_aload_n (pc2 := 44) hC dX10_cut_43 rfl 0 rfl rfl ?_
            refine cg_M_prices (pc2 := 47) hC hi_X10_cut_X10 lk_X10_cut_5 dX10_cut_44 rfl ?_
            refine jj_aload_n (pc2 := 48) hC dX10_cut_47 rfl 0 rfl rfl ?_
            refine cg_M_weights (pc2 := 51) hC hi_X10_cut_X10 lk_X10_cut_6 dX10_cut_48 rfl ?_
            refine jj_cVV (pc2 := 54) (wd := wc_d Y X cs ad) (g := g0) (rest := []) hC (Y.length + 6) (jx_at (V := wc_W cs ad g0) rfl) rfl rfl (kc_X7_prepare l D cs Y X ad  g0 _ hV) (cwV 1 hC.1.2.2.2.2 gX10_cut_X7_prepare rfl rfl rfl (by decide +kernel) ⟨by decide, by decide⟩) rfl (Nat.le_of_ble_eq_true rfl) _ rfl dX10_cut_51 ⟨Nat.zero_le _, Nat.zero_le _⟩ rfl (fun g7 hV => ?_)
            refine jj_aload_n (pc2 := 55) hC dX10_cut_54 rfl 0 rfl rfl ?_
            refine cg_M_cutter (pc2 := 58) hC hi_X10_cut_X10 lk_X10_cut_7 dX10_cut_55 rfl ?_
            refine jj_aload_n (pc2 := 59) hC dX10_cut_58 rfl 0 rfl rfl ?_
            refine cg_M_told (pc2 := 62) hC hi_X10_cut_X10 lk_X10_cut_8 dX10_cut_59 rfl ?_
            refine jj_iload_n (pc2 := 63) hC dX10_cut_62 rfl 1 rfl rfl ?_
            refine jj_iload_n (pc2 := 64) hC dX10_cut_63 rfl 2 rfl rfl ?_
            refine jj_cVI (pc2 := 67) (wd := wc_d Y X cs ad) (g := g7) (rest := []) hC (Y.length + 7) (jx_at (V := wc_W cs ad g7) rfl) rfl rfl (kc_X2_search l D cs Y X ad a1 a2 g7 _ hV) (cwV 3 hC.1.2.2.2.2 gX10_cut_X2_search rfl rfl rfl (by decide +kernel) ⟨by decide, by decide⟩) rfl (Nat.le_of_ble_eq_true rfl) _ rfl dX10_cut_64 ⟨Nat.zero_le _, Nat.zero_le _⟩ rfl (fun r8 g9 hV => ?_)
            refine jj_if_eq (pc2 := 70) hC 80 dX10_cut_67 (by decide) rfl (fun h10 => ?_) (fun h10 => ?_)
            · have hV := hV.1 h10
              refine jj_ldc2 (pc2 := 83) hC lk_X10_cut_10 dX10_cut_80 rfl ?_
              exact jj_lret hC dX10_cut_83 hV
            · have hV := hV.2 h10
              refine jj_aload_n (pc2 := 71) hC dX10_cut_70 rfl 0 rfl rfl ?_
              refine cg_M_cutter (pc2 := 74) hC hi_X10_cut_X10 lk_X10_cut_7 dX10_cut_71 rfl ?_
              refine cg_C_leastPrice (pc2 := 77) hC hi_X10_cut_X2 lk_X10_cut_9 dX10_cut_74 rfl ?_
              refine jj_goto hC 83 dX10_cut_77 (by decide) ?_
              exact jj_lret hC dX10_cut_83 hV
          · have hV := hV.2 h5
            refine jj_ldc2 (pc2 := 42) hC lk_X10_cut_4 dX10_cut_39 rfl ?_
            exact jj_lret hC dX10_cut_42 hV
        · have hV := hV.2 h4
          refine jj_ldc2 (pc2 := 26) hC lk_X10_cut_1 dX10_cut_23 rfl ?_
          exact jj_lret hC dX10_cut_26 hV
theorem hi_X10_put_X2 : ∀ w ∈ u_ws RX2 TX2 14, w ∈ wsX10_put := fun _ h => List.mem_cons_of_mem _ (List.mem_append_right _ h)
theorem lk_X10_put_3 : Cond.fieldLink RX10 200 "PartedHouse$Cutter" "keptRooms" "[I" ∈ wsX10_put := List.mem_of_getElem? (i := 3) rfl
theorem hi_X10_put_X10 : ∀ w ∈ u_ws RX10 TX10 13, w ∈ wsX10_put := fun _ h => List.mem_cons_of_mem _ (List.mem_append_left _ (List.mem_append_right _ h))
theorem lk_X10_put_1 : Cond.fieldLink RX10 67 "PartedHouse" "cutter" "LPartedHouse$Cutter;" ∈ wsX10_put := List.mem_of_getElem? (i := 1) rfl
theorem lk_X10_put_2 : Cond.fieldLink RX10 198 "PartedHouse$Cutter" "keptModules" "I" ∈ wsX10_put := List.mem_of_getElem? (i := 2) rfl
abbrev rm_X10_put : Room := { frames := 0, cells := 0, slots := 0, locals := 0 }
def vc_X10_put (a1 : Int32) (g0 : cm_M) (Post : Int32 → Prop) : Prop := ((a1 < 0) → (Post (-1))) ∧ ((¬ a1 < 0) → ((((g0.2.2 52 0) ≤ a1) → (Post (-1))) ∧ ((¬ (g0.2.2 52 0) ≤ a1) → ((vp_in a1 9) ∧ (Post (g0.2.2 51 a1.toNatClampNeg))))))
set_option maxHeartbeats 4000000 in
set_option maxRecDepth 100000 in
theorem kc_X10_put (l : Launch) (D : va_G) (cs : Nat → ClassId) (Y X : va_W) (ad : Nat → Nat) (a1 : Int32) (g0 : cm_M) (Post : Int32 → Prop) (hV : vc_X10_put a1 g0 Post) : JI (wc_d Y X cs ad) D vwCl (jt_tys cs) l yX10_put wsX10_put rm_X10_put 0 0 [.ref (ad 0), .int a1] g0 (fun r g2 => Post r ∧ g2 = g0) := by
  refine jj_metI (cc := cX10_put) (nL := 2) (ret := (some .int)) (by decide) rfl (Nat.le_of_ble_eq_true rfl) [(0, .ref (ad 0)), (1, .int a1)] rfl ?_
  intro p e s m args below meth c hC hnm
  rw [vc_X10_put] at hV
  refine jj_iload_n (pc2 := 1) hC dX10_put_0 rfl 1 rfl rfl ?_
  refine jj_if_lt (pc2 := 4) hC 27 dX10_put_1 (by decide) rfl (fun h1 => ?_) (fun h1 => ?_)
  · have hV := hV.1 h1
    refine jj_iconst (pc2 := 28) hC (-1) dX10_put_27 (by decide) rfl ?_
    exact jj_iret hC dX10_put_28 ⟨hV, rfl⟩
  · have hV := hV.2 h1
    refine jj_iload_n (pc2 := 5) hC dX10_put_4 rfl 1 rfl rfl ?_
    refine jj_aload_n (pc2 := 6) hC dX10_put_5 rfl 0 rfl rfl ?_
    refine cg_M_cutter (pc2 := 9) hC hi_X10_put_X10 lk_X10_put_1 dX10_put_6 rfl ?_
    refine cg_C_keptModules (pc2 := 12) hC hi_X10_put_X2 lk_X10_put_2 dX10_put_9 rfl ?_
    refine jj_icmp_ge (pc2 := 15) hC 27 dX10_put_12 (by decide) rfl (fun h2 => ?_) (fun h2 => ?_)
    · have hV := hV.1 h2
      refine jj_iconst (pc2 := 28) hC (-1) dX10_put_27 (by decide) rfl ?_
      exact jj_iret hC dX10_put_28 ⟨hV, rfl⟩
    · have hV := hV.2 h2
      refine jj_aload_n (pc2 := 16) hC dX10_put_15 rfl 0 rfl rfl ?_
      refine cg_M_cutter (pc2 := 19) hC hi_X10_put_X10 lk_X10_put_1 dX10_put_16 rfl ?_
      refine cg_C_keptRooms (pc2 := 22) hC hi_X10_put_X2 lk_X10_put_3 dX10_put_19 rfl ?_
      refine jj_iload_n (pc2 := 23) hC dX10_put_22 rfl 1 rfl rfl ?_
      refine cl_C_keptRooms (pc2 := 24) hC hV.1 dX10_put_23 rfl ?_
      have hV := hV.2
      refine jj_goto hC 28 dX10_put_24 (by decide) ?_
      exact jj_iret hC dX10_put_28 ⟨hV, rfl⟩
theorem hi_X10_ring_X8 : ∀ w ∈ u_ws RX8 TX8 2, w ∈ wsX10_ring := fun _ h => List.mem_cons_of_mem _ (List.mem_append_left _ (List.mem_append_right _ h))
theorem lk_X10_ring_5 : Cond.fieldLink RX10 207 "PartedHouse$RingSearch" "path" "[I" ∈ wsX10_ring := List.mem_of_getElem? (i := 5) rfl
theorem hi_X10_ring_X10 : ∀ w ∈ u_ws RX10 TX10 13, w ∈ wsX10_ring := fun _ h => List.mem_cons_of_mem _ (List.mem_append_left _ (List.mem_append_left _ (List.mem_append_left _ (List.mem_append_right _ h))))
theorem lk_X10_ring_1 : Cond.fieldLink RX10 74 "PartedHouse" "ringSearch" "LPartedHouse$RingSearch;" ∈ wsX10_ring := List.mem_of_getElem? (i := 1) rfl
theorem hi_X10_ring_X4 : ∀ w ∈ u_ws RX4 TX4 11, w ∈ wsX10_ring := fun _ h => List.mem_cons_of_mem _ (List.mem_append_left _ (List.mem_append_left _ (List.mem_append_right _ h)))
theorem lk_X10_ring_4 : Cond.fieldLink RX10 173 "PartedHouse$Houses" "rooms" "[I" ∈ wsX10_ring := List.mem_of_getElem? (i := 4) rfl
theorem lk_X10_ring_3 : Cond.fieldLink RX10 26 "PartedHouse" "now" "LPartedHouse$Houses;" ∈ wsX10_ring := List.mem_of_getElem? (i := 3) rfl
theorem lk_X10_ring_2 : Cond.fieldLink RX10 12 "PartedHouse" "text" "LPartedHouse$Text;" ∈ wsX10_ring := List.mem_of_getElem? (i := 2) rfl
abbrev rm_X10_ring : Room := { frames := 15, cells := 0, slots := 0, locals := 389 }
def vc_X10_ring (a1 : Int32) (g0 : cm_M) (Post : Int32 → cm_M → Prop) : Prop := vc_X8_shortest g0 (fun (r1 : Int32) (g2 : cm_M) => ((a1 < 0) → (Post (-1) g2)) ∧ ((¬ a1 < 0) → (((r1 ≤ a1) → (Post (-1) g2)) ∧ ((¬ r1 ≤ a1) → ((vp_in a1 6) ∧ (Post (g2.2.2 53 a1.toNatClampNeg) g2))))))
set_option maxHeartbeats 4000000 in
set_option maxRecDepth 100000 in
theorem kc_X10_ring (l : Launch) (D : va_G) (cs : Nat → ClassId) (Y X : va_W) (ad : Nat → Nat) (a1 : Int32) (g0 : cm_M) (Post : Int32 → cm_M → Prop) (hV : vc_X10_ring a1 g0 Post) : JI (wc_d Y X cs ad) D vwCl (jt_tys cs) l yX10_ring wsX10_ring rm_X10_ring 0 0 [.ref (ad 0), .int a1] g0 Post := by
  refine jj_metI (cc := cX10_ring) (nL := 3) (ret := (some .int)) (by decide) rfl (Nat.le_of_ble_eq_true rfl) [(0, .ref (ad 0)), (1, .int a1)] rfl ?_
  intro p e s m args below meth c hC hnm
  rw [vc_X10_ring] at hV
  refine jj_aload_n (pc2 := 1) hC dX10_ring_0 rfl 0 rfl rfl ?_
  refine cg_M_ringSearch (pc2 := 4) hC hi_X10_ring_X10 lk_X10_ring_1 dX10_ring_1 rfl ?_
  refine jj_aload_n (pc2 := 5) hC dX10_ring_4 rfl 0 rfl rfl ?_
  refine cg_M_text (pc2 := 8) hC hi_X10_ring_X10 lk_X10_ring_2 dX10_ring_5 rfl ?_
  refine jj_aload_n (pc2 := 9) hC dX10_ring_8 rfl 0 rfl rfl ?_
  refine cg_M_now (pc2 := 12) hC hi_X10_ring_X10 lk_X10_ring_3 dX10_ring_9 rfl ?_
  refine cg_H_rooms (pc2 := 15) hC hi_X10_ring_X4 lk_X10_ring_4 dX10_ring_12 rfl ?_
  refine jj_cVI (pc2 := 18) (wd := wc_d Y X cs ad) (g := g0) (rest := []) hC (Y.length + 8) (jx_at (V := wc_W cs ad g0) rfl) rfl rfl (kc_X8_shortest l D cs Y X ad  g0 _ hV) (cwV 2 hC.1.2.2.2.2 gX10_ring_X8_shortest rfl rfl rfl (by decide +kernel) ⟨by decide, by decide⟩) rfl (Nat.le_of_ble_eq_true rfl) _ rfl dX10_ring_15 ⟨Nat.zero_le _, Nat.zero_le _⟩ rfl (fun r1 g2 hV => ?_)
  refine jj_istore_n (pc2 := 19) hC [(2, .int r1), (0, .ref (ad 0)), (1, .int a1)] dX10_ring_18 rfl (by decide) rfl rfl ?_
  refine jj_iload_n (pc2 := 20) hC dX10_ring_19 rfl 2 rfl rfl ?_
  refine jj_if_lt (pc2 := 23) hC 40 dX10_ring_20 (by decide) rfl (fun h3 => ?_) (fun h3 => ?_)
  · have hV := hV.1 h3
    refine jj_iconst (pc2 := 41) hC (-1) dX10_ring_40 (by decide) rfl ?_
    exact jj_iret hC dX10_ring_41 hV
  · have hV := hV.2 h3
    refine jj_iload_n (pc2 := 24) hC dX10_ring_23 rfl 2 rfl rfl ?_
    refine jj_iload_n (pc2 := 25) hC dX10_ring_24 rfl 0 rfl rfl ?_
    refine jj_icmp_ge (pc2 := 28) hC 40 dX10_ring_25 (by decide) rfl (fun h4 => ?_) (fun h4 => ?_)
    · have hV := hV.1 h4
      refine jj_iconst (pc2 := 41) hC (-1) dX10_ring_40 (by decide) rfl ?_
      exact jj_iret hC dX10_ring_41 hV
    · have hV := hV.2 h4
      refine jj_aload_n (pc2 := 29) hC dX10_ring_28 rfl 1 rfl rfl ?_
      refine cg_M_ringSearch (pc2 := 32) hC hi_X10_ring_X10 lk_X10_ring_1 dX10_ring_29 rfl ?_
      refine cg_G_path (pc2 := 35) hC hi_X10_ring_X8 lk_X10_ring_5 dX10_ring_32 rfl ?_
      refine jj_iload_n (pc2 := 36) hC dX10_ring_35 rfl 2 rfl rfl ?_
      refine cl_G_path (pc2 := 37) hC hV.1 dX10_ring_36 rfl ?_
      have hV := hV.2
      refine jj_goto hC 41 dX10_ring_37 (by decide) ?_
      exact jj_iret hC dX10_ring_41 hV
theorem hi_X10_deliver_X4 : ∀ w ∈ u_ws RX4 TX4 11, w ∈ wsX10_deliver := fun _ h => List.mem_cons_of_mem _ (List.mem_append_left _ (List.mem_append_right _ h))
theorem lk_X10_deliver_3 : Cond.fieldLink RX10 216 "PartedHouse$Houses" "newCells" "[I" ∈ wsX10_deliver := List.mem_of_getElem? (i := 3) rfl
theorem hi_X10_deliver_X10 : ∀ w ∈ u_ws RX10 TX10 13, w ∈ wsX10_deliver := fun _ h => List.mem_cons_of_mem _ (List.mem_append_left _ (List.mem_append_left _ (List.mem_append_right _ h)))
theorem lk_X10_deliver_1 : Cond.fieldLink RX10 26 "PartedHouse" "now" "LPartedHouse$Houses;" ∈ wsX10_deliver := List.mem_of_getElem? (i := 1) rfl
theorem lk_X10_deliver_2 : Cond.fieldLink RX10 164 "PartedHouse$Houses" "letters" "LPartedHouse$Letters;" ∈ wsX10_deliver := List.mem_of_getElem? (i := 2) rfl
abbrev rm_X10_deliver : Room := { frames := 2, cells := 0, slots := 0, locals := 46 }
def vc_X10_deliver (a1 : Int32) (g0 : cm_M) (Post : Int32 → cm_M → Prop) : Prop := vc_X6_knows a1 g0 (fun (r1 : Int32) => ((¬ r1 = 0) → (vc_X6_arrive a1 g0 (fun (r3 : Int32) (g4 : cm_M) => ((r3 = 0) → (Post 0 g4)) ∧ ((¬ r3 = 0) → (Post 1 g4))))) ∧ ((r1 = 0) → (Post (-1) g0)))
set_option maxHeartbeats 4000000 in
set_option maxRecDepth 100000 in
theorem kc_X10_deliver (l : Launch) (D : va_G) (cs : Nat → ClassId) (Y X : va_W) (ad : Nat → Nat) (a1 : Int32) (g0 : cm_M) (Post : Int32 → cm_M → Prop) (hV : vc_X10_deliver a1 g0 Post) : JI (wc_d Y X cs ad) D vwCl (jt_tys cs) l yX10_deliver wsX10_deliver rm_X10_deliver 0 0 [.ref (ad 0), .int a1] g0 Post := by
  refine jj_metI (cc := cX10_deliver) (nL := 2) (ret := (some .int)) (by decide) rfl (Nat.le_of_ble_eq_true rfl) [(0, .ref (ad 0)), (1, .int a1)] rfl ?_
  intro p e s m args below meth c hC hnm
  rw [vc_X10_deliver] at hV
  refine jj_aload_n (pc2 := 1) hC dX10_deliver_0 rfl 0 rfl rfl ?_
  refine cg_M_now (pc2 := 4) hC hi_X10_deliver_X10 lk_X10_deliver_1 dX10_deliver_1 rfl ?_
  refine cg_H_letters (pc2 := 7) hC hi_X10_deliver_X4 lk_X10_deliver_2 dX10_deliver_4 rfl ?_
  refine jj_iload_n (pc2 := 8) hC dX10_deliver_7 rfl 1 rfl rfl ?_
  refine jj_cVIp (pc2 := 11) (wd := wc_d Y X cs ad) (g := g0) (rest := []) hC (Y.length + 5) (jx_at (V := wc_W cs ad g0) rfl) rfl rfl (kc_X6_knows l D cs Y X ad a1 g0 _ hV) (cwV 1 hC.1.2.2.2.2 gX10_deliver_X6_knows rfl rfl rfl (by decide +kernel) ⟨by decide, by decide⟩) rfl (Nat.le_of_ble_eq_true rfl) _ rfl dX10_deliver_8 ⟨Nat.zero_le _, Nat.zero_le _⟩ rfl (fun r1 hV => ?_)
  refine jj_if_ne (pc2 := 14) hC 16 dX10_deliver_11 (by decide) rfl (fun h2 => ?_) (fun h2 => ?_)
  · have hV := hV.1 h2
    refine jj_aload_n (pc2 := 17) hC dX10_deliver_16 rfl 0 rfl rfl ?_
    refine cg_M_now (pc2 := 20) hC hi_X10_deliver_X10 lk_X10_deliver_1 dX10_deliver_17 rfl ?_
    refine cg_H_letters (pc2 := 23) hC hi_X10_deliver_X4 lk_X10_deliver_2 dX10_deliver_20 rfl ?_
    refine jj_iload_n (pc2 := 24) hC dX10_deliver_23 rfl 1 rfl rfl ?_
    refine jj_aload_n (pc2 := 25) hC dX10_deliver_24 rfl 0 rfl rfl ?_
    refine cg_M_now (pc2 := 28) hC hi_X10_deliver_X10 lk_X10_deliver_1 dX10_deliver_25 rfl ?_
    refine cg_H_newCells (pc2 := 31) hC hi_X10_deliver_X4 lk_X10_deliver_3 dX10_deliver_28 rfl ?_
    refine jj_cVI (pc2 := 34) (wd := wc_d Y X cs ad) (g := g0) (rest := []) hC (Y.length + 5) (jx_at (V := wc_W cs ad g0) rfl) rfl rfl (kc_X6_arrive l D cs Y X ad a1 g0 _ hV) (cwV 2 hC.1.2.2.2.2 gX10_deliver_X6_arrive rfl rfl rfl (by decide +kernel) ⟨by decide, by decide⟩) rfl (Nat.le_of_ble_eq_true rfl) _ rfl dX10_deliver_31 ⟨Nat.zero_le _, Nat.zero_le _⟩ rfl (fun r3 g4 hV => ?_)
    refine jj_if_eq (pc2 := 37) hC 41 dX10_deliver_34 (by decide) rfl (fun h5 => ?_) (fun h5 => ?_)
    · have hV := hV.1 h5
      refine jj_iconst (pc2 := 42) hC 0 dX10_deliver_41 (by decide) rfl ?_
      exact jj_iret hC dX10_deliver_42 hV
    · have hV := hV.2 h5
      refine jj_iconst (pc2 := 38) hC 1 dX10_deliver_37 (by decide) rfl ?_
      refine jj_goto hC 42 dX10_deliver_38 (by decide) ?_
      exact jj_iret hC dX10_deliver_42 hV
  · have hV := hV.2 h2
    refine jj_iconst (pc2 := 15) hC (-1) dX10_deliver_14 (by decide) rfl ?_
    exact jj_iret hC dX10_deliver_15 hV
theorem hi_X10_settle_X4 : ∀ w ∈ u_ws RX4 TX4 11, w ∈ wsX10_settle := fun _ h => List.mem_cons_of_mem _ (List.mem_append_left _ (List.mem_append_right _ h))
theorem lk_X10_settle_3 : Cond.fieldLink RX10 216 "PartedHouse$Houses" "newCells" "[I" ∈ wsX10_settle := List.mem_of_getElem? (i := 3) rfl
theorem hi_X10_settle_X10 : ∀ w ∈ u_ws RX10 TX10 13, w ∈ wsX10_settle := fun _ h => List.mem_cons_of_mem _ (List.mem_append_left _ (List.mem_append_left _ (List.mem_append_right _ h)))
theorem lk_X10_settle_1 : Cond.fieldLink RX10 26 "PartedHouse" "now" "LPartedHouse$Houses;" ∈ wsX10_settle := List.mem_of_getElem? (i := 1) rfl
theorem lk_X10_settle_2 : Cond.fieldLink RX10 164 "PartedHouse$Houses" "letters" "LPartedHouse$Letters;" ∈ wsX10_settle := List.mem_of_getElem? (i := 2) rfl
abbrev rm_X10_settle : Room := { frames := 2, cells := 0, slots := 0, locals := 44 }
def vc_X10_settle (g0 : cm_M) (Post : Int32 → cm_M → Prop) : Prop := vc_X6_arriveAll g0 (fun (r1 : Int32) (g2 : cm_M) => Post r1 g2)
set_option maxHeartbeats 4000000 in
set_option maxRecDepth 100000 in
theorem kc_X10_settle (l : Launch) (D : va_G) (cs : Nat → ClassId) (Y X : va_W) (ad : Nat → Nat) (g0 : cm_M) (Post : Int32 → cm_M → Prop) (hV : vc_X10_settle g0 Post) : JI (wc_d Y X cs ad) D vwCl (jt_tys cs) l yX10_settle wsX10_settle rm_X10_settle 0 0 [.ref (ad 0)] g0 Post := by
  refine jj_metI (cc := cX10_settle) (nL := 1) (ret := (some .int)) (by decide) rfl (Nat.le_of_ble_eq_true rfl) [(0, .ref (ad 0))] rfl ?_
  intro p e s m args below meth c hC hnm
  rw [vc_X10_settle] at hV
  refine jj_aload_n (pc2 := 1) hC dX10_settle_0 rfl 0 rfl rfl ?_
  refine cg_M_now (pc2 := 4) hC hi_X10_settle_X10 lk_X10_settle_1 dX10_settle_1 rfl ?_
  refine cg_H_letters (pc2 := 7) hC hi_X10_settle_X4 lk_X10_settle_2 dX10_settle_4 rfl ?_
  refine jj_aload_n (pc2 := 8) hC dX10_settle_7 rfl 0 rfl rfl ?_
  refine cg_M_now (pc2 := 11) hC hi_X10_settle_X10 lk_X10_settle_1 dX10_settle_8 rfl ?_
  refine cg_H_newCells (pc2 := 14) hC hi_X10_settle_X4 lk_X10_settle_3 dX10_settle_11 rfl ?_
  refine jj_cVI (pc2 := 17) (wd := wc_d Y X cs ad) (g := g0) (rest := []) hC (Y.length + 5) (jx_at (V := wc_W cs ad g0) rfl) rfl rfl (kc_X6_arriveAll l D cs Y X ad  g0 _ hV) (cwV 1 hC.1.2.2.2.2 gX10_settle_X6_arriveAll rfl rfl rfl (by decide +kernel) ⟨by decide, by decide⟩) rfl (Nat.le_of_ble_eq_true rfl) _ rfl dX10_settle_14 ⟨Nat.zero_le _, Nat.zero_le _⟩ rfl (fun r1 g2 hV => ?_)
  exact jj_iret hC dX10_settle_17 hV
theorem lk_X10_letter_3 : Cond.constant RX10 140 (-2000000000) ∈ wsX10_letter := List.mem_of_getElem? (i := 3) rfl
theorem hi_X10_letter_X4 : ∀ w ∈ u_ws RX4 TX4 11, w ∈ wsX10_letter := fun _ h => List.mem_cons_of_mem _ (List.mem_append_left _ (List.mem_append_right _ h))
theorem lk_X10_letter_2 : Cond.fieldLink RX10 164 "PartedHouse$Houses" "letters" "LPartedHouse$Letters;" ∈ wsX10_letter := List.mem_of_getElem? (i := 2) rfl
theorem hi_X10_letter_X10 : ∀ w ∈ u_ws RX10 TX10 13, w ∈ wsX10_letter := fun _ h => List.mem_cons_of_mem _ (List.mem_append_left _ (List.mem_append_left _ (List.mem_append_right _ h)))
theorem lk_X10_letter_1 : Cond.fieldLink RX10 26 "PartedHouse" "now" "LPartedHouse$Houses;" ∈ wsX10_letter := List.mem_of_getElem? (i := 1) rfl
abbrev rm_X10_letter : Room := { frames := 2, cells := 0, slots := 0, locals := 44 }
def vc_X10_letter (a1 : Int32) (a2 : Int32) (g0 : cm_M) (Post : Int32 → Prop) : Prop := vc_X6_knows a1 g0 (fun (r1 : Int32) => ((r1 = 0) → (Post (-2000000000))) ∧ ((¬ r1 = 0) → (vc_X6_fact a1 a2 g0 (fun (r3 : Int32) => Post r3))))
set_option maxHeartbeats 4000000 in
set_option maxRecDepth 100000 in
theorem kc_X10_letter (l : Launch) (D : va_G) (cs : Nat → ClassId) (Y X : va_W) (ad : Nat → Nat) (a1 : Int32) (a2 : Int32) (g0 : cm_M) (Post : Int32 → Prop) (hV : vc_X10_letter a1 a2 g0 Post) : JI (wc_d Y X cs ad) D vwCl (jt_tys cs) l yX10_letter wsX10_letter rm_X10_letter 0 0 [.ref (ad 0), .int a1, .int a2] g0 (fun r g2 => Post r ∧ g2 = g0) := by
  refine jj_metI (cc := cX10_letter) (nL := 3) (ret := (some .int)) (by decide) rfl (Nat.le_of_ble_eq_true rfl) [(0, .ref (ad 0)), (1, .int a1), (2, .int a2)] rfl ?_
  intro p e s m args below meth c hC hnm
  rw [vc_X10_letter] at hV
  refine jj_aload_n (pc2 := 1) hC dX10_letter_0 rfl 0 rfl rfl ?_
  refine cg_M_now (pc2 := 4) hC hi_X10_letter_X10 lk_X10_letter_1 dX10_letter_1 rfl ?_
  refine cg_H_letters (pc2 := 7) hC hi_X10_letter_X4 lk_X10_letter_2 dX10_letter_4 rfl ?_
  refine jj_iload_n (pc2 := 8) hC dX10_letter_7 rfl 1 rfl rfl ?_
  refine jj_cVIp (pc2 := 11) (wd := wc_d Y X cs ad) (g := g0) (rest := []) hC (Y.length + 5) (jx_at (V := wc_W cs ad g0) rfl) rfl rfl (kc_X6_knows l D cs Y X ad a1 g0 _ hV) (cwV 1 hC.1.2.2.2.2 gX10_letter_X6_knows rfl rfl rfl (by decide +kernel) ⟨by decide, by decide⟩) rfl (Nat.le_of_ble_eq_true rfl) _ rfl dX10_letter_8 ⟨Nat.zero_le _, Nat.zero_le _⟩ rfl (fun r1 hV => ?_)
  refine jj_if_eq (pc2 := 14) hC 29 dX10_letter_11 (by decide) rfl (fun h2 => ?_) (fun h2 => ?_)
  · have hV := hV.1 h2
    refine jj_ldc (pc2 := 31) hC lk_X10_letter_3 dX10_letter_29 rfl ?_
    exact jj_iret hC dX10_letter_31 ⟨hV, rfl⟩
  · have hV := hV.2 h2
    refine jj_aload_n (pc2 := 15) hC dX10_letter_14 rfl 0 rfl rfl ?_
    refine cg_M_now (pc2 := 18) hC hi_X10_letter_X10 lk_X10_letter_1 dX10_letter_15 rfl ?_
    refine cg_H_letters (pc2 := 21) hC hi_X10_letter_X4 lk_X10_letter_2 dX10_letter_18 rfl ?_
    refine jj_iload_n (pc2 := 22) hC dX10_letter_21 rfl 1 rfl rfl ?_
    refine jj_iload_n (pc2 := 23) hC dX10_letter_22 rfl 2 rfl rfl ?_
    refine jj_cVIp (pc2 := 26) (wd := wc_d Y X cs ad) (g := g0) (rest := []) hC (Y.length + 5) (jx_at (V := wc_W cs ad g0) rfl) rfl rfl (kc_X6_fact l D cs Y X ad a1 a2 g0 _ hV) (cwV 2 hC.1.2.2.2.2 gX10_letter_X6_fact rfl rfl rfl (by decide +kernel) ⟨by decide, by decide⟩) rfl (Nat.le_of_ble_eq_true rfl) _ rfl dX10_letter_23 ⟨Nat.zero_le _, Nat.zero_le _⟩ rfl (fun r3 hV => ?_)
    refine jj_goto hC 31 dX10_letter_26 (by decide) ?_
    exact jj_iret hC dX10_letter_31 ⟨hV, rfl⟩
theorem hi_X10_law_X10 : ∀ w ∈ u_ws RX10 TX10 13, w ∈ wsX10_law := fun _ h => List.mem_cons_of_mem _ (List.mem_append_left _ (List.mem_append_right _ h))
theorem lk_X10_law_1 : Cond.fieldLink RX10 81 "PartedHouse" "lawBook" "LPartedHouse$Laws;" ∈ wsX10_law := List.mem_of_getElem? (i := 1) rfl
theorem hi_X10_law_X5 : ∀ w ∈ u_ws RX5 TX5 5, w ∈ wsX10_law := fun _ h => List.mem_cons_of_mem _ (List.mem_append_right _ h)
theorem lk_X10_law_2 : Cond.fieldLink RX10 231 "PartedHouse$Laws" "made" "I" ∈ wsX10_law := List.mem_of_getElem? (i := 2) rfl
abbrev rm_X10_law : Room := { frames := 1, cells := 0, slots := 0, locals := 21 }
def vc_X10_law (a1 : Int32) (g0 : cm_M) (Post : Int32 → cm_M → Prop) : Prop := (((g0.2.2 59 0) < 10) → (vc_X5_addLaw a1 g0 (fun (r2 : Int32) (g3 : cm_M) => Post r2 g3))) ∧ ((¬ (g0.2.2 59 0) < 10) → (Post (-3) g0))
set_option maxHeartbeats 4000000 in
set_option maxRecDepth 100000 in
theorem kc_X10_law (l : Launch) (D : va_G) (cs : Nat → ClassId) (Y X : va_W) (ad : Nat → Nat) (a1 : Int32) (g0 : cm_M) (Post : Int32 → cm_M → Prop) (hV : vc_X10_law a1 g0 Post) : JI (wc_d Y X cs ad) D vwCl (jt_tys cs) l yX10_law wsX10_law rm_X10_law 0 0 [.ref (ad 0), .int a1] g0 Post := by
  refine jj_metI (cc := cX10_law) (nL := 2) (ret := (some .int)) (by decide) rfl (Nat.le_of_ble_eq_true rfl) [(0, .ref (ad 0)), (1, .int a1)] rfl ?_
  intro p e s m args below meth c hC hnm
  rw [vc_X10_law] at hV
  refine jj_aload_n (pc2 := 1) hC dX10_law_0 rfl 0 rfl rfl ?_
  refine cg_M_lawBook (pc2 := 4) hC hi_X10_law_X10 lk_X10_law_1 dX10_law_1 rfl ?_
  refine cg_B_made (pc2 := 7) hC hi_X10_law_X5 lk_X10_law_2 dX10_law_4 rfl ?_
  refine jj_bipush (pc2 := 9) hC 10 dX10_law_7 (by decide) rfl ?_
  refine jj_icmp_lt (pc2 := 12) hC 17 dX10_law_9 (by decide) rfl (fun h1 => ?_) (fun h1 => ?_)
  · have hV := hV.1 h1
    refine jj_aload_n (pc2 := 18) hC dX10_law_17 rfl 0 rfl rfl ?_
    refine cg_M_lawBook (pc2 := 21) hC hi_X10_law_X10 lk_X10_law_1 dX10_law_18 rfl ?_
    refine jj_iload_n (pc2 := 22) hC dX10_law_21 rfl 1 rfl rfl ?_
    refine jj_cVI (pc2 := 25) (wd := wc_d Y X cs ad) (g := g0) (rest := []) hC (Y.length + 9) (jx_at (V := wc_W cs ad g0) rfl) rfl rfl (kc_X5_addLaw l D cs Y X ad a1 g0 _ hV) (cwV 1 hC.1.2.2.2.2 gX10_law_X5_addLaw rfl rfl rfl (by decide +kernel) ⟨by decide, by decide⟩) rfl (Nat.le_of_ble_eq_true rfl) _ rfl dX10_law_22 ⟨Nat.zero_le _, Nat.zero_le _⟩ rfl (fun r2 g3 hV => ?_)
    exact jj_iret hC dX10_law_25 hV
  · have hV := hV.2 h1
    refine jj_bipush (pc2 := 14) hC (-3) dX10_law_12 (by decide) rfl ?_
    refine jj_goto hC 25 dX10_law_14 (by decide) ?_
    exact jj_iret hC dX10_law_25 hV
theorem hi_X10_term_X10 : ∀ w ∈ u_ws RX10 TX10 13, w ∈ wsX10_term := fun _ h => List.mem_cons_of_mem _ (List.mem_append_left _ (List.mem_append_left _ (List.mem_append_right _ h)))
theorem lk_X10_term_1 : Cond.fieldLink RX10 81 "PartedHouse" "lawBook" "LPartedHouse$Laws;" ∈ wsX10_term := List.mem_of_getElem? (i := 1) rfl
theorem hi_X10_term_X5 : ∀ w ∈ u_ws RX5 TX5 5, w ∈ wsX10_term := fun _ h => List.mem_cons_of_mem _ (List.mem_append_left _ (List.mem_append_right _ h))
theorem lk_X10_term_3 : Cond.fieldLink RX10 240 "PartedHouse$Laws" "lengths" "[I" ∈ wsX10_term := List.mem_of_getElem? (i := 3) rfl
theorem lk_X10_term_2 : Cond.fieldLink RX10 12 "PartedHouse" "text" "LPartedHouse$Text;" ∈ wsX10_term := List.mem_of_getElem? (i := 2) rfl
abbrev rm_X10_term : Room := { frames := 2, cells := 0, slots := 0, locals := 43 }
def vc_X10_term (a1 : Int32) (a2 : Int32) (a3 : Int32) (a4 : Int32) (g0 : cm_M) (Post : Int32 → cm_M → Prop) : Prop := vc_X5_has a1 g0 (fun (r1 : Int32) => ((r1 = 0) → (Post (-1) g0)) ∧ ((¬ r1 = 0) → (vc_X9_hasCell a2 a3 g0 (fun (r3 : Int32) => ((r3 = 0) → (Post (-1) g0)) ∧ ((¬ r3 = 0) → (((a4 < (-9)) → (Post (-1) g0)) ∧ ((¬ a4 < (-9)) → (((a4 ≤ 9) → ((vp_in a1 10) ∧ ((((g0.2.2 55 a1.toNatClampNeg) < 6) → (vc_X5_addTerm a1 ((a2 * 8) + a3) a4 g0 (fun (r8 : Int32) (g9 : cm_M) => Post r8 g9))) ∧ ((¬ (g0.2.2 55 a1.toNatClampNeg) < 6) → (Post (-3) g0))))) ∧ ((¬ a4 ≤ 9) → (Post (-1) g0))))))))))
set_option maxHeartbeats 4000000 in
set_option maxRecDepth 100000 in
theorem kc_X10_term (l : Launch) (D : va_G) (cs : Nat → ClassId) (Y X : va_W) (ad : Nat → Nat) (a1 : Int32) (a2 : Int32) (a3 : Int32) (a4 : Int32) (g0 : cm_M) (Post : Int32 → cm_M → Prop) (hV : vc_X10_term a1 a2 a3 a4 g0 Post) : JI (wc_d Y X cs ad) D vwCl (jt_tys cs) l yX10_term wsX10_term rm_X10_term 0 0 [.ref (ad 0), .int a1, .int a2, .int a3, .int a4] g0 Post := by
  refine jj_metI (cc := cX10_term) (nL := 5) (ret := (some .int)) (by decide) rfl (Nat.le_of_ble_eq_true rfl) [(0, .ref (ad 0)), (1, .int a1), (2, .int a2), (3, .int a3), (4, .int a4)] rfl ?_
  intro p e s m args below meth c hC hnm
  rw [vc_X10_term] at hV
  refine jj_aload_n (pc2 := 1) hC dX10_term_0 rfl 0 rfl rfl ?_
  refine cg_M_lawBook (pc2 := 4) hC hi_X10_term_X10 lk_X10_term_1 dX10_term_1 rfl ?_
  refine jj_iload_n (pc2 := 5) hC dX10_term_4 rfl 1 rfl rfl ?_
  refine jj_cVIp (pc2 := 8) (wd := wc_d Y X cs ad) (g := g0) (rest := []) hC (Y.length + 9) (jx_at (V := wc_W cs ad g0) rfl) rfl rfl (kc_X5_has l D cs Y X ad a1 g0 _ hV) (cwV 1 hC.1.2.2.2.2 gX10_term_X5_has rfl rfl rfl (by decide +kernel) ⟨by decide, by decide⟩) rfl (Nat.le_of_ble_eq_true rfl) _ rfl dX10_term_5 ⟨Nat.zero_le _, Nat.zero_le _⟩ rfl (fun r1 hV => ?_)
  refine jj_if_eq (pc2 := 11) hC 37 dX10_term_8 (by decide) rfl (fun h2 => ?_) (fun h2 => ?_)
  · have hV := hV.1 h2
    refine jj_iconst (pc2 := 38) hC (-1) dX10_term_37 (by decide) rfl ?_
    exact jj_iret hC dX10_term_38 hV
  · have hV := hV.2 h2
    refine jj_aload_n (pc2 := 12) hC dX10_term_11 rfl 0 rfl rfl ?_
    refine cg_M_text (pc2 := 15) hC hi_X10_term_X10 lk_X10_term_2 dX10_term_12 rfl ?_
    refine jj_iload_n (pc2 := 16) hC dX10_term_15 rfl 2 rfl rfl ?_
    refine jj_iload_n (pc2 := 17) hC dX10_term_16 rfl 3 rfl rfl ?_
    refine jj_cVIp (pc2 := 20) (wd := wc_d Y X cs ad) (g := g0) (rest := []) hC (Y.length + 1) (jx_at (V := wc_W cs ad g0) rfl) rfl rfl (kc_X9_hasCell l D cs Y X ad a2 a3 g0 _ hV) (cwV 2 hC.1.2.2.2.2 gX10_term_X9_hasCell rfl rfl rfl (by decide +kernel) ⟨by decide, by decide⟩) rfl (Nat.le_of_ble_eq_true rfl) _ rfl dX10_term_17 ⟨Nat.zero_le _, Nat.zero_le _⟩ rfl (fun r3 hV => ?_)
    refine jj_if_eq (pc2 := 23) hC 37 dX10_term_20 (by decide) rfl (fun h4 => ?_) (fun h4 => ?_)
    · have hV := hV.1 h4
      refine jj_iconst (pc2 := 38) hC (-1) dX10_term_37 (by decide) rfl ?_
      exact jj_iret hC dX10_term_38 hV
    · have hV := hV.2 h4
      refine jj_iload (pc2 := 25) hC dX10_term_23 4 rfl rfl ?_
      refine jj_bipush (pc2 := 27) hC (-9) dX10_term_25 (by decide) rfl ?_
      refine jj_icmp_lt (pc2 := 30) hC 37 dX10_term_27 (by decide) rfl (fun h5 => ?_) (fun h5 => ?_)
      · have hV := hV.1 h5
        refine jj_iconst (pc2 := 38) hC (-1) dX10_term_37 (by decide) rfl ?_
        exact jj_iret hC dX10_term_38 hV
      · have hV := hV.2 h5
        refine jj_iload (pc2 := 32) hC dX10_term_30 4 rfl rfl ?_
        refine jj_bipush (pc2 := 34) hC 9 dX10_term_32 (by decide) rfl ?_
        refine jj_icmp_le (pc2 := 37) hC 39 dX10_term_34 (by decide) rfl (fun h6 => ?_) (fun h6 => ?_)
        · have hV := hV.1 h6
          refine jj_aload_n (pc2 := 40) hC dX10_term_39 rfl 0 rfl rfl ?_
          refine cg_M_lawBook (pc2 := 43) hC hi_X10_term_X10 lk_X10_term_1 dX10_term_40 rfl ?_
          refine cg_B_lengths (pc2 := 46) hC hi_X10_term_X5 lk_X10_term_3 dX10_term_43 rfl ?_
          refine jj_iload_n (pc2 := 47) hC dX10_term_46 rfl 1 rfl rfl ?_
          refine cl_B_lengths (pc2 := 48) hC hV.1 dX10_term_47 rfl ?_
          have hV := hV.2
          refine jj_bipush (pc2 := 50) hC 6 dX10_term_48 (by decide) rfl ?_
          refine jj_icmp_lt (pc2 := 53) hC 58 dX10_term_50 (by decide) rfl (fun h7 => ?_) (fun h7 => ?_)
          · have hV := hV.1 h7
            refine jj_aload_n (pc2 := 59) hC dX10_term_58 rfl 0 rfl rfl ?_
            refine cg_M_lawBook (pc2 := 62) hC hi_X10_term_X10 lk_X10_term_1 dX10_term_59 rfl ?_
            refine jj_iload_n (pc2 := 63) hC dX10_term_62 rfl 1 rfl rfl ?_
            refine jj_iload_n (pc2 := 64) hC dX10_term_63 rfl 2 rfl rfl ?_
            refine jj_bipush (pc2 := 66) hC 8 dX10_term_64 (by decide) rfl ?_
            refine jj_imul (pc2 := 67) hC dX10_term_66 rfl ?_
            refine jj_iload_n (pc2 := 68) hC dX10_term_67 rfl 3 rfl rfl ?_
            refine jj_iadd (pc2 := 69) hC dX10_term_68 rfl ?_
            refine jj_iload (pc2 := 71) hC dX10_term_69 4 rfl rfl ?_
            refine jj_cVI (pc2 := 74) (wd := wc_d Y X cs ad) (g := g0) (rest := []) hC (Y.length + 9) (jx_at (V := wc_W cs ad g0) rfl) rfl rfl (kc_X5_addTerm l D cs Y X ad a1 ((a2 * 8) + a3) a4 g0 _ hV) (cwV 3 hC.1.2.2.2.2 gX10_term_X5_addTerm rfl rfl rfl (by decide +kernel) ⟨by decide, by decide⟩) rfl (Nat.le_of_ble_eq_true rfl) _ rfl dX10_term_71 ⟨Nat.zero_le _, Nat.zero_le _⟩ rfl (fun r8 g9 hV => ?_)
            exact jj_iret hC dX10_term_74 hV
          · have hV := hV.2 h7
            refine jj_bipush (pc2 := 55) hC (-3) dX10_term_53 (by decide) rfl ?_
            refine jj_goto hC 74 dX10_term_55 (by decide) ?_
            exact jj_iret hC dX10_term_74 hV
        · have hV := hV.2 h6
          refine jj_iconst (pc2 := 38) hC (-1) dX10_term_37 (by decide) rfl ?_
          exact jj_iret hC dX10_term_38 hV
theorem hi_X10_holds_X10 : ∀ w ∈ u_ws RX10 TX10 13, w ∈ wsX10_holds := fun _ h => List.mem_cons_of_mem _ (List.mem_append_left _ (List.mem_append_left _ (List.mem_append_left _ (List.mem_append_right _ h))))
theorem lk_X10_holds_3 : Cond.fieldLink RX10 88 "PartedHouse" "arrivals" "LPartedHouse$Arrivals;" ∈ wsX10_holds := List.mem_of_getElem? (i := 3) rfl
theorem lk_X10_holds_2 : Cond.fieldLink RX10 26 "PartedHouse" "now" "LPartedHouse$Houses;" ∈ wsX10_holds := List.mem_of_getElem? (i := 2) rfl
theorem lk_X10_holds_1 : Cond.fieldLink RX10 81 "PartedHouse" "lawBook" "LPartedHouse$Laws;" ∈ wsX10_holds := List.mem_of_getElem? (i := 1) rfl
abbrev rm_X10_holds : Room := { frames := 2, cells := 0, slots := 0, locals := 52 }
def vc_X10_holds (a1 : Int32) (a2 : Int32) (g0 : cm_M) (Post : Int32 → Prop) : Prop := vc_X5_has a1 g0 (fun (r1 : Int32) => ((r1 = 0) → (Post (-1))) ∧ ((¬ r1 = 0) → (vc_X10_isHouse a2 g0 (fun (r3 : Int32) => ((¬ r3 = 0) → (((a2 = 0) → (vc_X5_standsAfter 25 a1 0 g0 (fun (r6 : Int32) => ((r6 = 0) → (Post 0)) ∧ ((¬ r6 = 0) → (Post 1))))) ∧ ((¬ a2 = 0) → (vc_X5_standsAfter 26 a1 0 g0 (fun (r8 : Int32) => ((r8 = 0) → (Post 0)) ∧ ((¬ r8 = 0) → (Post 1))))))) ∧ ((r3 = 0) → (Post (-1)))))))
set_option maxHeartbeats 4000000 in
set_option maxRecDepth 100000 in
theorem kc_X10_holds (l : Launch) (D : va_G) (cs : Nat → ClassId) (Y X : va_W) (ad : Nat → Nat) (a1 : Int32) (a2 : Int32) (g0 : cm_M) (Post : Int32 → Prop) (hV : vc_X10_holds a1 a2 g0 Post) : JI (wc_d Y X cs ad) D vwCl (jt_tys cs) l yX10_holds wsX10_holds rm_X10_holds 0 0 [.ref (ad 0), .int a1, .int a2] g0 (fun r g2 => Post r ∧ g2 = g0) := by
  refine jj_metI (cc := cX10_holds) (nL := 3) (ret := (some .int)) (by decide) rfl (Nat.le_of_ble_eq_true rfl) [(0, .ref (ad 0)), (1, .int a1), (2, .int a2)] rfl ?_
  intro p e s m args below meth c hC hnm
  rw [vc_X10_holds] at hV
  refine jj_aload_n (pc2 := 1) hC dX10_holds_0 rfl 0 rfl rfl ?_
  refine cg_M_lawBook (pc2 := 4) hC hi_X10_holds_X10 lk_X10_holds_1 dX10_holds_1 rfl ?_
  refine jj_iload_n (pc2 := 5) hC dX10_holds_4 rfl 1 rfl rfl ?_
  refine jj_cVIp (pc2 := 8) (wd := wc_d Y X cs ad) (g := g0) (rest := []) hC (Y.length + 9) (jx_at (V := wc_W cs ad g0) rfl) rfl rfl (kc_X5_has l D cs Y X ad a1 g0 _ hV) (cwV 1 hC.1.2.2.2.2 gX10_holds_X5_has rfl rfl rfl (by decide +kernel) ⟨by decide, by decide⟩) rfl (Nat.le_of_ble_eq_true rfl) _ rfl dX10_holds_5 ⟨Nat.zero_le _, Nat.zero_le _⟩ rfl (fun r1 hV => ?_)
  refine jj_if_eq (pc2 := 11) hC 18 dX10_holds_8 (by decide) rfl (fun h2 => ?_) (fun h2 => ?_)
  · have hV := hV.1 h2
    refine jj_iconst (pc2 := 19) hC (-1) dX10_holds_18 (by decide) rfl ?_
    exact jj_iret hC dX10_holds_19 ⟨hV, rfl⟩
  · have hV := hV.2 h2
    refine jj_iload_n (pc2 := 12) hC dX10_holds_11 rfl 2 rfl rfl ?_
    refine jj_cSIp (pc2 := 15) (wd := wc_d Y X cs ad) (g := g0) (rest := []) hC (kc_X10_isHouse l D cs Y X ad a2 g0 _ hV) (va_cwS 1 hC.1.2.2.2.2 gX10_holds_X10_isHouse rfl rfl rfl (by decide +kernel) ⟨by decide, by decide⟩) rfl (Nat.le_of_ble_eq_true rfl) _ rfl dX10_holds_12 ⟨Nat.zero_le _, Nat.zero_le _⟩ rfl (fun r3 hV => ?_)
    refine jj_if_ne (pc2 := 18) hC 20 dX10_holds_15 (by decide) rfl (fun h4 => ?_) (fun h4 => ?_)
    · have hV := hV.1 h4
      refine jj_aload_n (pc2 := 21) hC dX10_holds_20 rfl 0 rfl rfl ?_
      refine cg_M_lawBook (pc2 := 24) hC hi_X10_holds_X10 lk_X10_holds_1 dX10_holds_21 rfl ?_
      refine jj_iload_n (pc2 := 25) hC dX10_holds_24 rfl 1 rfl rfl ?_
      refine jj_aload_n (pc2 := 26) hC dX10_holds_25 rfl 0 rfl rfl ?_
      refine cg_M_now (pc2 := 29) hC hi_X10_holds_X10 lk_X10_holds_2 dX10_holds_26 rfl ?_
      refine jj_iload_n (pc2 := 30) hC dX10_holds_29 rfl 2 rfl rfl ?_
      by_cases h5 : a2 = 0
      · have hV := hV.1 h5
        refine jj_cVR (pc2 := 33) (wd := wc_d Y X cs ad) (g := g0) (rest := [.int a1, .ref (ad 9)]) hC (Y.length + 3) (jx_at (V := wc_W cs ad g0) rfl) rfl rfl (kc_X4_cellsOf_oldCells l D cs Y X ad a2 g0 h5) (cwV 1 hC.1.2.2.2.2 gX10_holds_X4_cellsOf rfl rfl rfl (by decide +kernel) ⟨by decide, by decide⟩) rfl (Nat.le_of_ble_eq_true rfl) _ rfl dX10_holds_30 ⟨Nat.zero_le _, Nat.zero_le _⟩ rfl ?_
        refine jj_aload_n (pc2 := 34) hC dX10_holds_33 rfl 0 rfl rfl ?_
        refine cg_M_arrivals (pc2 := 37) hC hi_X10_holds_X10 lk_X10_holds_3 dX10_holds_34 rfl ?_
        refine jj_iconst (pc2 := 38) hC 0 dX10_holds_37 (by decide) rfl ?_
        refine jj_cVIp (pc2 := 41) (wd := wc_d Y X cs ad) (g := g0) (rest := []) hC (Y.length + 9) (jx_at (V := wc_W cs ad g0) rfl) rfl rfl (kc_X5_standsAfter_oldCells l D cs Y X ad a1 0 g0 _ hV) (cwV 4 hC.1.2.2.2.2 gX10_holds_X5_standsAfter rfl rfl rfl (by decide +kernel) ⟨by decide, by decide⟩) rfl (Nat.le_of_ble_eq_true rfl) _ rfl dX10_holds_38 ⟨Nat.zero_le _, Nat.zero_le _⟩ rfl (fun r6 hV => ?_)
        refine jj_if_eq (pc2 := 44) hC 48 dX10_holds_41 (by decide) rfl (fun h7 => ?_) (fun h7 => ?_)
        · have hV := hV.1 h7
          refine jj_iconst (pc2 := 49) hC 0 dX10_holds_48 (by decide) rfl ?_
          exact jj_iret hC dX10_holds_49 ⟨hV, rfl⟩
        · have hV := hV.2 h7
          refine jj_iconst (pc2 := 45) hC 1 dX10_holds_44 (by decide) rfl ?_
          refine jj_goto hC 49 dX10_holds_45 (by decide) ?_
          exact jj_iret hC dX10_holds_49 ⟨hV, rfl⟩
      · have hV := hV.2 h5
        refine jj_cVR (pc2 := 33) (wd := wc_d Y X cs ad) (g := g0) (rest := [.int a1, .ref (ad 9)]) hC (Y.length + 3) (jx_at (V := wc_W cs ad g0) rfl) rfl rfl (kc_X4_cellsOf_newCells l D cs Y X ad a2 g0 h5) (cwV 1 hC.1.2.2.2.2 gX10_holds_X4_cellsOf rfl rfl rfl (by decide +kernel) ⟨by decide, by decide⟩) rfl (Nat.le_of_ble_eq_true rfl) _ rfl dX10_holds_30 ⟨Nat.zero_le _, Nat.zero_le _⟩ rfl ?_
        refine jj_aload_n (pc2 := 34) hC dX10_holds_33 rfl 0 rfl rfl ?_
        refine cg_M_arrivals (pc2 := 37) hC hi_X10_holds_X10 lk_X10_holds_3 dX10_holds_34 rfl ?_
        refine jj_iconst (pc2 := 38) hC 0 dX10_holds_37 (by decide) rfl ?_
        refine jj_cVIp (pc2 := 41) (wd := wc_d Y X cs ad) (g := g0) (rest := []) hC (Y.length + 9) (jx_at (V := wc_W cs ad g0) rfl) rfl rfl (kc_X5_standsAfter_newCells l D cs Y X ad a1 0 g0 _ hV) (cwV 4 hC.1.2.2.2.2 gX10_holds_X5_standsAfter rfl rfl rfl (by decide +kernel) ⟨by decide, by decide⟩) rfl (Nat.le_of_ble_eq_true rfl) _ rfl dX10_holds_38 ⟨Nat.zero_le _, Nat.zero_le _⟩ rfl (fun r8 hV => ?_)
        refine jj_if_eq (pc2 := 44) hC 48 dX10_holds_41 (by decide) rfl (fun h9 => ?_) (fun h9 => ?_)
        · have hV := hV.1 h9
          refine jj_iconst (pc2 := 49) hC 0 dX10_holds_48 (by decide) rfl ?_
          exact jj_iret hC dX10_holds_49 ⟨hV, rfl⟩
        · have hV := hV.2 h9
          refine jj_iconst (pc2 := 45) hC 1 dX10_holds_44 (by decide) rfl ?_
          refine jj_goto hC 49 dX10_holds_45 (by decide) ?_
          exact jj_iret hC dX10_holds_49 ⟨hV, rfl⟩
    · have hV := hV.2 h4
      refine jj_iconst (pc2 := 19) hC (-1) dX10_holds_18 (by decide) rfl ?_
      exact jj_iret hC dX10_holds_19 ⟨hV, rfl⟩
theorem hi_X10_broken_X1 : ∀ w ∈ u_ws RX1 TX1 8, w ∈ wsX10_broken := fun _ h => List.mem_cons_of_mem _ (List.mem_append_left _ (List.mem_append_right _ h))
theorem lk_X10_broken_8 : Cond.fieldLink RX10 259 "PartedHouse$Arrivals" "soundWays" "[I" ∈ wsX10_broken := List.mem_of_getElem? (i := 8) rfl
theorem hi_X10_broken_X10 : ∀ w ∈ u_ws RX10 TX10 13, w ∈ wsX10_broken := fun _ h => List.mem_cons_of_mem _ (List.mem_append_left _ (List.mem_append_left _ (List.mem_append_left _ (List.mem_append_left _ (List.mem_append_right _ h)))))
theorem lk_X10_broken_5 : Cond.fieldLink RX10 88 "PartedHouse" "arrivals" "LPartedHouse$Arrivals;" ∈ wsX10_broken := List.mem_of_getElem? (i := 5) rfl
theorem lk_X10_broken_7 : Cond.fieldLink RX10 256 "PartedHouse$Arrivals" "ways" "[I" ∈ wsX10_broken := List.mem_of_getElem? (i := 7) rfl
theorem hi_X10_broken_X4 : ∀ w ∈ u_ws RX4 TX4 11, w ∈ wsX10_broken := fun _ h => List.mem_cons_of_mem _ (List.mem_append_left _ (List.mem_append_left _ (List.mem_append_left _ (List.mem_append_right _ h))))
theorem lk_X10_broken_6 : Cond.fieldLink RX10 216 "PartedHouse$Houses" "newCells" "[I" ∈ wsX10_broken := List.mem_of_getElem? (i := 6) rfl
theorem lk_X10_broken_2 : Cond.fieldLink RX10 26 "PartedHouse" "now" "LPartedHouse$Houses;" ∈ wsX10_broken := List.mem_of_getElem? (i := 2) rfl
theorem lk_X10_broken_1 : Cond.fieldLink RX10 81 "PartedHouse" "lawBook" "LPartedHouse$Laws;" ∈ wsX10_broken := List.mem_of_getElem? (i := 1) rfl
theorem lk_X10_broken_3 : Cond.fieldLink RX10 164 "PartedHouse$Houses" "letters" "LPartedHouse$Letters;" ∈ wsX10_broken := List.mem_of_getElem? (i := 3) rfl
theorem hi_X10_broken_X6 : ∀ w ∈ u_ws RX6 TX6 5, w ∈ wsX10_broken := fun _ h => List.mem_cons_of_mem _ (List.mem_append_left _ (List.mem_append_left _ (List.mem_append_right _ h)))
theorem lk_X10_broken_4 : Cond.fieldLink RX10 168 "PartedHouse$Letters" "waits" "I" ∈ wsX10_broken := List.mem_of_getElem? (i := 4) rfl
abbrev rm_X10_broken : Room := { frames := 3, cells := 0, slots := 0, locals := 76 }
def vc_X10_broken (a1 : Int32) (g0 : cm_M) (Post : Int32 → cm_M → Prop) : Prop := vc_X5_has a1 g0 (fun (r1 : Int32) => ((¬ r1 = 0) → ((((g0.2.2 41 0) ≤ 6) → (vc_X1_gather g0 (fun (g5 : cm_M) => vc_X1_watch a1 g5 (fun (g7 : cm_M) => Post ((g7.2.2 60 (0 : Int32).toNatClampNeg) - (g7.2.2 61 (0 : Int32).toNatClampNeg)) g7)))) ∧ ((¬ (g0.2.2 41 0) ≤ 6) → (Post (-4) g0)))) ∧ ((r1 = 0) → (Post (-1) g0)))
set_option maxHeartbeats 4000000 in
set_option maxRecDepth 100000 in
theorem kc_X10_broken (l : Launch) (D : va_G) (cs : Nat → ClassId) (Y X : va_W) (ad : Nat → Nat) (a1 : Int32) (g0 : cm_M) (Post : Int32 → cm_M → Prop) (hV : vc_X10_broken a1 g0 Post) : JI (wc_d Y X cs ad) D vwCl (jt_tys cs) l yX10_broken wsX10_broken rm_X10_broken 0 0 [.ref (ad 0), .int a1] g0 Post := by
  refine jj_metI (cc := cX10_broken) (nL := 2) (ret := (some .int)) (by decide) rfl (Nat.le_of_ble_eq_true rfl) [(0, .ref (ad 0)), (1, .int a1)] rfl ?_
  intro p e s m args below meth c hC hnm
  rw [vc_X10_broken] at hV
  refine jj_aload_n (pc2 := 1) hC dX10_broken_0 rfl 0 rfl rfl ?_
  refine cg_M_lawBook (pc2 := 4) hC hi_X10_broken_X10 lk_X10_broken_1 dX10_broken_1 rfl ?_
  refine jj_iload_n (pc2 := 5) hC dX10_broken_4 rfl 1 rfl rfl ?_
  refine jj_cVIp (pc2 := 8) (wd := wc_d Y X cs ad) (g := g0) (rest := []) hC (Y.length + 9) (jx_at (V := wc_W cs ad g0) rfl) rfl rfl (kc_X5_has l D cs Y X ad a1 g0 _ hV) (cwV 1 hC.1.2.2.2.2 gX10_broken_X5_has rfl rfl rfl (by decide +kernel) ⟨by decide, by decide⟩) rfl (Nat.le_of_ble_eq_true rfl) _ rfl dX10_broken_5 ⟨Nat.zero_le _, Nat.zero_le _⟩ rfl (fun r1 hV => ?_)
  refine jj_if_ne (pc2 := 11) hC 13 dX10_broken_8 (by decide) rfl (fun h2 => ?_) (fun h2 => ?_)
  · have hV := hV.1 h2
    refine jj_aload_n (pc2 := 14) hC dX10_broken_13 rfl 0 rfl rfl ?_
    refine cg_M_now (pc2 := 17) hC hi_X10_broken_X10 lk_X10_broken_2 dX10_broken_14 rfl ?_
    refine cg_H_letters (pc2 := 20) hC hi_X10_broken_X4 lk_X10_broken_3 dX10_broken_17 rfl ?_
    refine cg_L_waits (pc2 := 23) hC hi_X10_broken_X6 lk_X10_broken_4 dX10_broken_20 rfl ?_
    refine jj_bipush (pc2 := 25) hC 6 dX10_broken_23 (by decide) rfl ?_
    refine jj_icmp_le (pc2 := 28) hC 31 dX10_broken_25 (by decide) rfl (fun h3 => ?_) (fun h3 => ?_)
    · have hV := hV.1 h3
      refine jj_aload_n (pc2 := 32) hC dX10_broken_31 rfl 0 rfl rfl ?_
      refine cg_M_arrivals (pc2 := 35) hC hi_X10_broken_X10 lk_X10_broken_5 dX10_broken_32 rfl ?_
      refine jj_aload_n (pc2 := 36) hC dX10_broken_35 rfl 0 rfl rfl ?_
      refine cg_M_now (pc2 := 39) hC hi_X10_broken_X10 lk_X10_broken_2 dX10_broken_36 rfl ?_
      refine cg_H_letters (pc2 := 42) hC hi_X10_broken_X4 lk_X10_broken_3 dX10_broken_39 rfl ?_
      refine jj_cVV (pc2 := 45) (wd := wc_d Y X cs ad) (g := g0) (rest := []) hC (Y.length + 10) (jx_at (V := wc_W cs ad g0) rfl) rfl rfl (kc_X1_gather l D cs Y X ad  g0 _ hV) (cwV 1 hC.1.2.2.2.2 gX10_broken_X1_gather rfl rfl rfl (by decide +kernel) ⟨by decide, by decide⟩) rfl (Nat.le_of_ble_eq_true rfl) _ rfl dX10_broken_42 ⟨Nat.zero_le _, Nat.zero_le _⟩ rfl (fun g5 hV => ?_)
      refine jj_aload_n (pc2 := 46) hC dX10_broken_45 rfl 0 rfl rfl ?_
      refine cg_M_arrivals (pc2 := 49) hC hi_X10_broken_X10 lk_X10_broken_5 dX10_broken_46 rfl ?_
      refine jj_aload_n (pc2 := 50) hC dX10_broken_49 rfl 0 rfl rfl ?_
      refine cg_M_lawBook (pc2 := 53) hC hi_X10_broken_X10 lk_X10_broken_1 dX10_broken_50 rfl ?_
      refine jj_iload_n (pc2 := 54) hC dX10_broken_53 rfl 1 rfl rfl ?_
      refine jj_aload_n (pc2 := 55) hC dX10_broken_54 rfl 0 rfl rfl ?_
      refine cg_M_now (pc2 := 58) hC hi_X10_broken_X10 lk_X10_broken_2 dX10_broken_55 rfl ?_
      refine cg_H_newCells (pc2 := 61) hC hi_X10_broken_X4 lk_X10_broken_6 dX10_broken_58 rfl ?_
      refine jj_cVV (pc2 := 64) (wd := wc_d Y X cs ad) (g := g5) (rest := []) hC (Y.length + 10) (jx_at (V := wc_W cs ad g5) rfl) rfl rfl (kc_X1_watch l D cs Y X ad a1 g5 _ hV) (cwV 3 hC.1.2.2.2.2 gX10_broken_X1_watch rfl rfl rfl (by decide +kernel) ⟨by decide, by decide⟩) rfl (Nat.le_of_ble_eq_true rfl) _ rfl dX10_broken_61 ⟨Nat.zero_le _, Nat.zero_le _⟩ rfl (fun g7 hV => ?_)
      refine jj_aload_n (pc2 := 65) hC dX10_broken_64 rfl 0 rfl rfl ?_
      refine cg_M_arrivals (pc2 := 68) hC hi_X10_broken_X10 lk_X10_broken_5 dX10_broken_65 rfl ?_
      refine cg_V_ways (pc2 := 71) hC hi_X10_broken_X1 lk_X10_broken_7 dX10_broken_68 rfl ?_
      refine jj_iconst (pc2 := 72) hC 0 dX10_broken_71 (by decide) rfl ?_
      refine cl_V_ways (pc2 := 73) hC (jx_lit (by decide) (by decide)) dX10_broken_72 rfl ?_
      refine jj_aload_n (pc2 := 74) hC dX10_broken_73 rfl 0 rfl rfl ?_
      refine cg_M_arrivals (pc2 := 77) hC hi_X10_broken_X10 lk_X10_broken_5 dX10_broken_74 rfl ?_
      refine cg_V_soundWays (pc2 := 80) hC hi_X10_broken_X1 lk_X10_broken_8 dX10_broken_77 rfl ?_
      refine jj_iconst (pc2 := 81) hC 0 dX10_broken_80 (by decide) rfl ?_
      refine cl_V_soundWays (pc2 := 82) hC (jx_lit (by decide) (by decide)) dX10_broken_81 rfl ?_
      refine jj_isub (pc2 := 83) hC dX10_broken_82 rfl ?_
      exact jj_iret hC dX10_broken_83 hV
    · have hV := hV.2 h3
      refine jj_bipush (pc2 := 30) hC (-4) dX10_broken_28 (by decide) rfl ?_
      exact jj_iret hC dX10_broken_30 hV
  · have hV := hV.2 h2
    refine jj_iconst (pc2 := 12) hC (-1) dX10_broken_11 (by decide) rfl ?_
    exact jj_iret hC dX10_broken_12 hV
