theorem hi_X2_search_X2 : ∀ w ∈ u_ws RX2 TX2 14, w ∈ wsX2_search := fun _ h => List.mem_cons_of_mem _ (List.mem_append_left _ (List.mem_append_left _ (List.mem_append_left _ (List.mem_append_right _ h))))
theorem lk_X2_search_7 : Cond.fieldLink RX2 54 "PartedHouse$Cutter" "found" "Z" ∈ wsX2_search := List.mem_of_getElem? (i := 7) rfl
theorem lk_X2_search_18 : Cond.fieldLink RX2 83 "PartedHouse$Cutter" "keptModules" "I" ∈ wsX2_search := List.mem_of_getElem? (i := 18) rfl
theorem hi_X2_search_X9 : ∀ w ∈ u_ws RX9 TX9 11, w ∈ wsX2_search := fun _ h => List.mem_cons_of_mem _ (List.mem_append_left _ (List.mem_append_left _ (List.mem_append_right _ h)))
theorem lk_X2_search_17 : Cond.fieldLink RX2 78 "PartedHouse$Text" "modules" "I" ∈ wsX2_search := List.mem_of_getElem? (i := 17) rfl
theorem lk_X2_search_16 : Cond.fieldLink RX2 33 "PartedHouse$Cutter" "text" "LPartedHouse$Text;" ∈ wsX2_search := List.mem_of_getElem? (i := 16) rfl
theorem lk_X2_search_12 : Cond.methodLink RX2 72 arraycopyName ∈ wsX2_search := List.mem_of_getElem? (i := 12) rfl
theorem lk_X2_search_13 : Cond.native arraycopyName ∈ wsX2_search := List.mem_of_getElem? (i := 13) rfl
theorem lk_X2_search_14 : Cond.static arraycopyName ∈ wsX2_search := List.mem_of_getElem? (i := 14) rfl
theorem lk_X2_search_15 : Cond.initialized "java/lang/System" ∈ wsX2_search := List.mem_of_getElem? (i := 15) rfl
theorem lk_X2_search_11 : Cond.fieldLink RX2 30 "PartedHouse$Cutter" "keptRooms" "[I" ∈ wsX2_search := List.mem_of_getElem? (i := 11) rfl
theorem lk_X2_search_10 : Cond.fieldLink RX2 21 "PartedHouse$Cutter" "foundRooms" "[I" ∈ wsX2_search := List.mem_of_getElem? (i := 10) rfl
theorem lk_X2_search_9 : Cond.fieldLink RX2 15 "PartedHouse$Cutter" "loads" "[I" ∈ wsX2_search := List.mem_of_getElem? (i := 9) rfl
theorem lk_X2_search_8 : Cond.fieldLink RX2 9 "PartedHouse$Cutter" "members" "[I" ∈ wsX2_search := List.mem_of_getElem? (i := 8) rfl
theorem lk_X2_search_6 : Cond.fieldLink RX2 51 "PartedHouse$Cutter" "most" "I" ∈ wsX2_search := List.mem_of_getElem? (i := 6) rfl
theorem lk_X2_search_5 : Cond.fieldLink RX2 47 "PartedHouse$Cutter" "roomCount" "I" ∈ wsX2_search := List.mem_of_getElem? (i := 5) rfl
theorem lk_X2_search_1 : Cond.methodLink RX2 41 Lib.Math.min.name ∈ wsX2_search := List.mem_of_getElem? (i := 1) rfl
theorem lk_X2_search_2 : Cond.static Lib.Math.min.name ∈ wsX2_search := List.mem_of_getElem? (i := 2) rfl
theorem lk_X2_search_3 : Cond.initialized "java/lang/Math" ∈ wsX2_search := List.mem_of_getElem? (i := 3) rfl
theorem lk_X2_search_4 : Cond.code Lib.Math.min.name Lib.Math.min.code 2 (some .int) ∈ wsX2_search := List.mem_of_getElem? (i := 4) rfl
abbrev rm_X2_search : Room := { frames := 14, cells := 0, slots := 0, locals := 404 }
def vc_X2_search (a2 : Int32) (a3 : Int32) (g0 : cm_M) (Post : Int32 → cm_M → Prop) : Prop := ∀ g1 : cm_M, g1 = cm_s g0 48 (if 6 < a2 then 6 else a2) → (∀ g2 : cm_M, g2 = cm_s g1 49 a3 → (∀ g3 : cm_M, g3 = cm_s g2 50 0 → (vc_J7_fill_53178 42 0 g3 (fun (g5 : cm_M) => vc_J7_fill_53178 43 0 g5 (fun (g7 : cm_M) => vc_X2_readTold g7 (fun (g9 : cm_M) => ∃ d15 : Nat, d15 ≤ 12 ∧ vc_X2_place d15 0 0 0 g9 (fun (g11 : cm_M) => (((g11.2.2 50 0) = 0) → ((jj_nb (g11.2.2 50 0)) ∧ (Post (g11.2.2 50 0) g11))) ∧ ((¬ (g11.2.2 50 0) = 0) → (∀ g13 : cm_M, g13 = cm_u g11 51 (va_cpy (g11.2.2 45) (g11.2.2 51) 0 0 9) → (∀ g14 : cm_M, g14 = cm_s g13 52 (g13.2.2 12 0) → ((jj_nb (g14.2.2 50 0)) ∧ (Post (g14.2.2 50 0) g14))))))))))))
set_option maxHeartbeats 4000000 in
set_option maxRecDepth 100000 in
theorem kc_X2_search (l : Launch) (D : va_G) (cs : Nat → ClassId) (Y X : va_W) (ad : Nat → Nat) (a2 : Int32) (a3 : Int32) (g0 : cm_M) (Post : Int32 → cm_M → Prop) (hV : vc_X2_search a2 a3 g0 Post) : JI (wc_d Y X cs ad) D vwCl (jt_tys cs) l yX2_search wsX2_search rm_X2_search 0 0 [.ref (ad 7), .ref (ad 15), .int a2, .int a3] g0 Post := by
  refine jj_metI (cc := cX2_search) (nL := 4) (ret := (some .boolean)) (by decide) rfl (Nat.le_of_ble_eq_true rfl) [(0, .ref (ad 7)), (1, .ref (ad 15)), (2, .int a2), (3, .int a3)] rfl ?_
  intro p e s m args below meth c hC hnm
  rw [vc_X2_search] at hV
  refine jj_aload_n (pc2 := 1) hC dX2_search_0 rfl 0 rfl rfl ?_
  refine jj_iload_n (pc2 := 2) hC dX2_search_1 rfl 2 rfl rfl ?_
  refine jj_bipush (pc2 := 4) hC 6 dX2_search_2 (by decide) rfl ?_
  refine jj_mmin (pc2 := 7) (rest := [.ref (ad 7)]) hC lk_X2_search_1 lk_X2_search_2 lk_X2_search_3 lk_X2_search_4 (by decide) (Nat.le_of_ble_eq_true rfl) ⟨Nat.zero_le _, Nat.zero_le _⟩ dX2_search_4 rfl ?_
  refine cp_C_roomCount (pc2 := 10) hC hi_X2_search_X2 lk_X2_search_5 dX2_search_7 rfl (fun g1 eg1 => ?_)
  have hV := hV g1 eg1
  refine jj_aload_n (pc2 := 11) hC dX2_search_10 rfl 0 rfl rfl ?_
  refine jj_iload_n (pc2 := 12) hC dX2_search_11 rfl 3 rfl rfl ?_
  refine cp_C_most (pc2 := 15) hC hi_X2_search_X2 lk_X2_search_6 dX2_search_12 rfl (fun g2 eg2 => ?_)
  have hV := hV g2 eg2
  refine jj_aload_n (pc2 := 16) hC dX2_search_15 rfl 0 rfl rfl ?_
  refine jj_iconst (pc2 := 17) hC 0 dX2_search_16 (by decide) rfl ?_
  refine cp_C_found (pc2 := 20) hC hi_X2_search_X2 lk_X2_search_7 jj_nb0 dX2_search_17 rfl (fun g3 eg3 => ?_)
  have hV := hV g3 eg3
  refine jj_aload_n (pc2 := 21) hC dX2_search_20 rfl 0 rfl rfl ?_
  refine cg_C_members (pc2 := 24) hC hi_X2_search_X2 lk_X2_search_8 dX2_search_21 rfl ?_
  refine jj_iconst (pc2 := 25) hC 0 dX2_search_24 (by decide) rfl ?_
  refine jj_cSV (pc2 := 28) (wd := wc_d Y X cs ad) (g := g3) (rest := []) hC (kc_J7_fill_53178_members l D cs Y X ad 0 g3 _ hV) (va_cwS 2 hC.1.2.2.2.2 gX2_search_J7_fill_53178 rfl rfl rfl (by decide +kernel) ⟨by decide, by decide⟩) rfl (Nat.le_of_ble_eq_true rfl) _ rfl dX2_search_25 ⟨Nat.zero_le _, Nat.zero_le _⟩ rfl (fun g5 hV => ?_)
  refine jj_aload_n (pc2 := 29) hC dX2_search_28 rfl 0 rfl rfl ?_
  refine cg_C_loads (pc2 := 32) hC hi_X2_search_X2 lk_X2_search_9 dX2_search_29 rfl ?_
  refine jj_iconst (pc2 := 33) hC 0 dX2_search_32 (by decide) rfl ?_
  refine jj_cSV (pc2 := 36) (wd := wc_d Y X cs ad) (g := g5) (rest := []) hC (kc_J7_fill_53178_loads l D cs Y X ad 0 g5 _ hV) (va_cwS 2 hC.1.2.2.2.2 gX2_search_J7_fill_53178 rfl rfl rfl (by decide +kernel) ⟨by decide, by decide⟩) rfl (Nat.le_of_ble_eq_true rfl) _ rfl dX2_search_33 ⟨Nat.zero_le _, Nat.zero_le _⟩ rfl (fun g7 hV => ?_)
  refine jj_aload_n (pc2 := 37) hC dX2_search_36 rfl 0 rfl rfl ?_
  refine jj_aload_n (pc2 := 38) hC dX2_search_37 rfl 1 rfl rfl ?_
  refine jj_cVV (pc2 := 41) (wd := wc_d Y X cs ad) (g := g7) (rest := []) hC (Y.length + 7) (jx_at (V := wc_W cs ad g7) rfl) rfl rfl (kc_X2_readTold l D cs Y X ad  g7 _ hV) (cwV 1 hC.1.2.2.2.2 gX2_search_X2_readTold rfl rfl rfl (by decide +kernel) ⟨by decide, by decide⟩) rfl (Nat.le_of_ble_eq_true rfl) _ rfl dX2_search_38 ⟨Nat.zero_le _, Nat.zero_le _⟩ rfl (fun g9 hV => ?_)
  refine jj_aload_n (pc2 := 42) hC dX2_search_41 rfl 0 rfl rfl ?_
  refine jj_iconst (pc2 := 43) hC 0 dX2_search_42 (by decide) rfl ?_
  refine jj_iconst (pc2 := 44) hC 0 dX2_search_43 (by decide) rfl ?_
  refine jj_lconst (pc2 := 45) hC 0 dX2_search_44 (by decide) rfl ?_
  obtain ⟨d15, hd15, hV⟩ := hV
  refine jj_cVV (pc2 := 48) (wd := wc_d Y X cs ad) (g := g9) (rest := []) hC (Y.length + 7) (jx_at (V := wc_W cs ad g9) rfl) rfl rfl (kc_X2_place l D cs Y X ad d15 0 0 0 g9 _ hV) (cwV 3 hC.1.2.2.2.2 gX2_search_X2_place rfl rfl rfl (by decide +kernel) ⟨by show d15 + 1 + 1 ≤ 14; omega, by show 8 + (9 + 11) + (28 * d15 + 40) ≤ 404; omega⟩) rfl (Nat.le_of_ble_eq_true rfl) _ rfl dX2_search_45 ⟨Nat.zero_le _, Nat.zero_le _⟩ rfl (fun g11 hV => ?_)
  refine jj_aload_n (pc2 := 49) hC dX2_search_48 rfl 0 rfl rfl ?_
  refine cg_C_found (pc2 := 52) hC hi_X2_search_X2 lk_X2_search_7 dX2_search_49 rfl ?_
  refine jj_if_eq (pc2 := 55) hC 81 dX2_search_52 (by decide) rfl (fun h12 => ?_) (fun h12 => ?_)
  · have hV := hV.1 h12
    refine jj_aload_n (pc2 := 82) hC dX2_search_81 rfl 0 rfl rfl ?_
    refine cg_C_found (pc2 := 85) hC hi_X2_search_X2 lk_X2_search_7 dX2_search_82 rfl ?_
    exact jj_zret hC hV.1 dX2_search_85 hV.2
  · have hV := hV.2 h12
    refine jj_aload_n (pc2 := 56) hC dX2_search_55 rfl 0 rfl rfl ?_
    refine cg_C_foundRooms (pc2 := 59) hC hi_X2_search_X2 lk_X2_search_10 dX2_search_56 rfl ?_
    refine jj_iconst (pc2 := 60) hC 0 dX2_search_59 (by decide) rfl ?_
    refine jj_aload_n (pc2 := 61) hC dX2_search_60 rfl 0 rfl rfl ?_
    refine cg_C_keptRooms (pc2 := 64) hC hi_X2_search_X2 lk_X2_search_11 dX2_search_61 rfl ?_
    refine jj_iconst (pc2 := 65) hC 0 dX2_search_64 (by decide) rfl ?_
    refine jj_bipush (pc2 := 67) hC 9 dX2_search_65 (by decide) rfl ?_
    refine jj_copyi (pc2 := 70) (wd := wc_d Y X cs ad) (g := g11) (rest := []) hC lk_X2_search_12 lk_X2_search_13 lk_X2_search_14 lk_X2_search_15 (Y.length + 44) (Y.length + 47) 0 (jx_at (V := wc_W cs ad g11) rfl) (jx_at (V := wc_W cs ad g11) rfl) rfl (by decide) (by decide) (by decide) (sN := 0) (dN := 0) (nN := 9) (by decide) (by decide) (by decide) (by decide) (by decide) (by decide) (Nat.le_of_ble_eq_true rfl) (cm_u g11 51 (va_cpy (g11.2.2 45) (g11.2.2 51) 0 0 9)) (jx_set (V := wc_W cs ad g11) (V2 := wc_W cs ad (cm_u g11 51 (va_cpy (g11.2.2 45) (g11.2.2 51) 0 0 9))) (Nat.le_of_ble_eq_true rfl) rfl) dX2_search_67 rfl ?_
    refine jj_mem (fun g13 eg13 => ?_)
    have hV := hV g13 eg13
    refine jj_aload_n (pc2 := 71) hC dX2_search_70 rfl 0 rfl rfl ?_
    refine jj_aload_n (pc2 := 72) hC dX2_search_71 rfl 0 rfl rfl ?_
    refine cg_C_text (pc2 := 75) hC hi_X2_search_X2 lk_X2_search_16 dX2_search_72 rfl ?_
    refine cg_T_modules (pc2 := 78) hC hi_X2_search_X9 lk_X2_search_17 dX2_search_75 rfl ?_
    refine cp_C_keptModules (pc2 := 81) hC hi_X2_search_X2 lk_X2_search_18 dX2_search_78 rfl (fun g14 eg14 => ?_)
    have hV := hV g14 eg14
    refine jj_aload_n (pc2 := 82) hC dX2_search_81 rfl 0 rfl rfl ?_
    refine cg_C_found (pc2 := 85) hC hi_X2_search_X2 lk_X2_search_7 dX2_search_82 rfl ?_
    exact jj_zret hC hV.1 dX2_search_85 hV.2
theorem hi_X4_cellsOf_X4 : ∀ w ∈ u_ws RX4 TX4 11, w ∈ wsX4_cellsOf := fun _ h => List.mem_cons_of_mem _ (List.mem_append_right _ h)
theorem lk_X4_cellsOf_2 : Cond.fieldLink RX4 15 "PartedHouse$Houses" "newCells" "[I" ∈ wsX4_cellsOf := List.mem_of_getElem? (i := 2) rfl
theorem lk_X4_cellsOf_1 : Cond.fieldLink RX4 9 "PartedHouse$Houses" "oldCells" "[I" ∈ wsX4_cellsOf := List.mem_of_getElem? (i := 1) rfl
abbrev rm_X4_cellsOf : Room := { frames := 0, cells := 0, slots := 0, locals := 0 }
set_option maxHeartbeats 4000000 in
set_option maxRecDepth 100000 in
theorem kc_X4_cellsOf_oldCells (l : Launch) (D : va_G) (cs : Nat → ClassId) (Y X : va_W) (ad : Nat → Nat) (a1 : Int32) (g0 : cm_M) (hq : a1 = 0) : JR (wc_d Y X cs ad) D vwCl (jt_tys cs) l yX4_cellsOf wsX4_cellsOf rm_X4_cellsOf [.ref (ad 3), .int a1] g0 (ad 30) := by
  refine jj_metR (cc := cX4_cellsOf) (nL := 2) (ret := (some (.array .int))) (by decide) rfl (Nat.le_of_ble_eq_true rfl) [(0, .ref (ad 3)), (1, .int a1)] rfl ?_
  intro p e s m args below meth c hC hnm
  refine jj_iload_n (pc2 := 1) hC dX4_cellsOf_0 rfl 1 rfl rfl ?_
  refine jj_if_ne (pc2 := 4) hC 11 dX4_cellsOf_1 (by decide) rfl (fun h => ?_) (fun h => ?_)
  · exact absurd hq h
  · refine jj_aload_n (pc2 := 5) hC dX4_cellsOf_4 rfl 0 rfl rfl ?_
    refine cg_H_oldCells (pc2 := 8) hC hi_X4_cellsOf_X4 lk_X4_cellsOf_1 dX4_cellsOf_5 rfl ?_
    refine jj_goto hC 15 dX4_cellsOf_8 (by decide) ?_
    exact jj_aret hC dX4_cellsOf_15
set_option maxHeartbeats 4000000 in
set_option maxRecDepth 100000 in
theorem kc_X4_cellsOf_newCells (l : Launch) (D : va_G) (cs : Nat → ClassId) (Y X : va_W) (ad : Nat → Nat) (a1 : Int32) (g0 : cm_M) (hq : ¬ a1 = 0) : JR (wc_d Y X cs ad) D vwCl (jt_tys cs) l yX4_cellsOf wsX4_cellsOf rm_X4_cellsOf [.ref (ad 3), .int a1] g0 (ad 31) := by
  refine jj_metR (cc := cX4_cellsOf) (nL := 2) (ret := (some (.array .int))) (by decide) rfl (Nat.le_of_ble_eq_true rfl) [(0, .ref (ad 3)), (1, .int a1)] rfl ?_
  intro p e s m args below meth c hC hnm
  refine jj_iload_n (pc2 := 1) hC dX4_cellsOf_0 rfl 1 rfl rfl ?_
  refine jj_if_ne (pc2 := 4) hC 11 dX4_cellsOf_1 (by decide) rfl (fun h => ?_) (fun h => ?_)
  · refine jj_aload_n (pc2 := 12) hC dX4_cellsOf_11 rfl 0 rfl rfl ?_
    refine cg_H_newCells (pc2 := 15) hC hi_X4_cellsOf_X4 lk_X4_cellsOf_2 dX4_cellsOf_12 rfl ?_
    exact jj_aret hC dX4_cellsOf_15
  · exact absurd h hq
theorem hi_X4_roomOf_X9 : ∀ w ∈ u_ws RX9 TX9 11, w ∈ wsX4_roomOf := fun _ h => List.mem_cons_of_mem _ (List.mem_append_right _ h)
theorem lk_X4_roomOf_2 : Cond.fieldLink RX4 53 "PartedHouse$Text" "homes" "[I" ∈ wsX4_roomOf := List.mem_of_getElem? (i := 2) rfl
theorem hi_X4_roomOf_X4 : ∀ w ∈ u_ws RX4 TX4 11, w ∈ wsX4_roomOf := fun _ h => List.mem_cons_of_mem _ (List.mem_append_left _ (List.mem_append_right _ h))
theorem lk_X4_roomOf_1 : Cond.fieldLink RX4 18 "PartedHouse$Houses" "rooms" "[I" ∈ wsX4_roomOf := List.mem_of_getElem? (i := 1) rfl
abbrev rm_X4_roomOf : Room := { frames := 0, cells := 0, slots := 0, locals := 0 }
def vc_X4_roomOf (a1 : Int32) (g0 : cm_M) (Post : Int32 → Prop) : Prop := (vp_in (a1 / 8) 16) ∧ ((vp_in (g0.2.2 5 (a1 / 8).toNatClampNeg) 10) ∧ (Post (g0.2.2 27 (g0.2.2 5 (a1 / 8).toNatClampNeg).toNatClampNeg)))
set_option maxHeartbeats 4000000 in
set_option maxRecDepth 100000 in
theorem kc_X4_roomOf (l : Launch) (D : va_G) (cs : Nat → ClassId) (Y X : va_W) (ad : Nat → Nat) (a1 : Int32) (g0 : cm_M) (Post : Int32 → Prop) (hV : vc_X4_roomOf a1 g0 Post) : JI (wc_d Y X cs ad) D vwCl (jt_tys cs) l yX4_roomOf wsX4_roomOf rm_X4_roomOf 0 0 [.ref (ad 3), .int a1, .ref (ad 1)] g0 (fun r g2 => Post r ∧ g2 = g0) := by
  refine jj_metI (cc := cX4_roomOf) (nL := 3) (ret := (some .int)) (by decide) rfl (Nat.le_of_ble_eq_true rfl) [(0, .ref (ad 3)), (1, .int a1), (2, .ref (ad 1))] rfl ?_
  intro p e s m args below meth c hC hnm
  rw [vc_X4_roomOf] at hV
  refine jj_aload_n (pc2 := 1) hC dX4_roomOf_0 rfl 0 rfl rfl ?_
  refine cg_H_rooms (pc2 := 4) hC hi_X4_roomOf_X4 lk_X4_roomOf_1 dX4_roomOf_1 rfl ?_
  refine jj_aload_n (pc2 := 5) hC dX4_roomOf_4 rfl 2 rfl rfl ?_
  refine cg_T_homes (pc2 := 8) hC hi_X4_roomOf_X9 lk_X4_roomOf_2 dX4_roomOf_5 rfl ?_
  refine jj_iload_n (pc2 := 9) hC dX4_roomOf_8 rfl 1 rfl rfl ?_
  refine jj_bipush (pc2 := 11) hC 8 dX4_roomOf_9 (by decide) rfl ?_
  refine jj_idiv (pc2 := 12) hC dX4_roomOf_11 (by decide) rfl ?_
  refine cl_T_homes (pc2 := 13) hC hV.1 dX4_roomOf_12 rfl ?_
  have hV := hV.2
  refine cl_H_rooms (pc2 := 14) hC hV.1 dX4_roomOf_13 rfl ?_
  have hV := hV.2
  exact jj_iret hC dX4_roomOf_14 ⟨hV, rfl⟩
theorem hi_X6_canTake_X6 : ∀ w ∈ u_ws RX6 TX6 5, w ∈ wsX6_canTake := fun _ h => List.mem_cons_of_mem _ (List.mem_append_right _ h)
theorem lk_X6_canTake_2 : Cond.fieldLink RX6 21 "PartedHouse$Letters" "sent" "I" ∈ wsX6_canTake := List.mem_of_getElem? (i := 2) rfl
theorem lk_X6_canTake_1 : Cond.fieldLink RX6 25 "PartedHouse$Letters" "waits" "I" ∈ wsX6_canTake := List.mem_of_getElem? (i := 1) rfl
abbrev rm_X6_canTake : Room := { frames := 0, cells := 0, slots := 0, locals := 0 }
def vc_X6_canTake (a1 : Int32) (g0 : cm_M) (Post : Int32 → Prop) : Prop := ((a1 = 0) → (Post 1)) ∧ ((¬ a1 = 0) → (((40 < ((g0.2.2 41 0) + a1)) → (Post 0)) ∧ ((¬ 40 < ((g0.2.2 41 0) + a1)) → (((2000 < ((g0.2.2 40 0) + a1)) → (Post 0)) ∧ ((¬ 2000 < ((g0.2.2 40 0) + a1)) → (Post 1))))))
set_option maxHeartbeats 4000000 in
set_option maxRecDepth 100000 in
theorem kc_X6_canTake (l : Launch) (D : va_G) (cs : Nat → ClassId) (Y X : va_W) (ad : Nat → Nat) (a1 : Int32) (g0 : cm_M) (Post : Int32 → Prop) (hV : vc_X6_canTake a1 g0 Post) : JI (wc_d Y X cs ad) D vwCl (jt_tys cs) l yX6_canTake wsX6_canTake rm_X6_canTake 0 0 [.ref (ad 5), .int a1] g0 (fun r g2 => Post r ∧ g2 = g0) := by
  refine jj_metI (cc := cX6_canTake) (nL := 2) (ret := (some .boolean)) (by decide) rfl (Nat.le_of_ble_eq_true rfl) [(0, .ref (ad 5)), (1, .int a1)] rfl ?_
  intro p e s m args below meth c hC hnm
  rw [vc_X6_canTake] at hV
  refine jj_iload_n (pc2 := 1) hC dX6_canTake_0 rfl 1 rfl rfl ?_
  refine jj_if_eq (pc2 := 4) hC 27 dX6_canTake_1 (by decide) rfl (fun h1 => ?_) (fun h1 => ?_)
  · have hV := hV.1 h1
    refine jj_iconst (pc2 := 28) hC 1 dX6_canTake_27 (by decide) rfl ?_
    refine jj_goto hC 32 dX6_canTake_28 (by decide) ?_
    exact jj_zret hC jj_nb1 dX6_canTake_32 ⟨hV, rfl⟩
  · have hV := hV.2 h1
    refine jj_aload_n (pc2 := 5) hC dX6_canTake_4 rfl 0 rfl rfl ?_
    refine cg_L_waits (pc2 := 8) hC hi_X6_canTake_X6 lk_X6_canTake_1 dX6_canTake_5 rfl ?_
    refine jj_iload_n (pc2 := 9) hC dX6_canTake_8 rfl 1 rfl rfl ?_
    refine jj_iadd (pc2 := 10) hC dX6_canTake_9 rfl ?_
    refine jj_bipush (pc2 := 12) hC 40 dX6_canTake_10 (by decide) rfl ?_
    refine jj_icmp_gt (pc2 := 15) hC 31 dX6_canTake_12 (by decide) rfl (fun h2 => ?_) (fun h2 => ?_)
    · have hV := hV.1 h2
      refine jj_iconst (pc2 := 32) hC 0 dX6_canTake_31 (by decide) rfl ?_
      exact jj_zret hC jj_nb0 dX6_canTake_32 ⟨hV, rfl⟩
    · have hV := hV.2 h2
      refine jj_aload_n (pc2 := 16) hC dX6_canTake_15 rfl 0 rfl rfl ?_
      refine cg_L_sent (pc2 := 19) hC hi_X6_canTake_X6 lk_X6_canTake_2 dX6_canTake_16 rfl ?_
      refine jj_iload_n (pc2 := 20) hC dX6_canTake_19 rfl 1 rfl rfl ?_
      refine jj_iadd (pc2 := 21) hC dX6_canTake_20 rfl ?_
      refine jj_sipush (pc2 := 24) hC 2000 dX6_canTake_21 (by decide) rfl ?_
      refine jj_icmp_gt (pc2 := 27) hC 31 dX6_canTake_24 (by decide) rfl (fun h3 => ?_) (fun h3 => ?_)
      · have hV := hV.1 h3
        refine jj_iconst (pc2 := 32) hC 0 dX6_canTake_31 (by decide) rfl ?_
        exact jj_zret hC jj_nb0 dX6_canTake_32 ⟨hV, rfl⟩
      · have hV := hV.2 h3
        refine jj_iconst (pc2 := 28) hC 1 dX6_canTake_27 (by decide) rfl ?_
        refine jj_goto hC 32 dX6_canTake_28 (by decide) ?_
        exact jj_zret hC jj_nb1 dX6_canTake_32 ⟨hV, rfl⟩
theorem hi_X4_noteUnlike_X4 : ∀ w ∈ u_ws RX4 TX4 11, w ∈ wsX4_noteUnlike := fun _ h => List.mem_cons_of_mem _ (List.mem_append_right _ h)
theorem lk_X4_noteUnlike_2 : Cond.fieldLink RX4 38 "PartedHouse$Houses" "firstUnlike" "[I" ∈ wsX4_noteUnlike := List.mem_of_getElem? (i := 2) rfl
theorem lk_X4_noteUnlike_3 : Cond.fieldLink RX4 90 "PartedHouse$Houses" "besides" "I" ∈ wsX4_noteUnlike := List.mem_of_getElem? (i := 3) rfl
theorem lk_X4_noteUnlike_1 : Cond.fieldLink RX4 86 "PartedHouse$Houses" "hasUnlike" "Z" ∈ wsX4_noteUnlike := List.mem_of_getElem? (i := 1) rfl
abbrev rm_X4_noteUnlike : Room := { frames := 0, cells := 0, slots := 0, locals := 0 }
def vc_X4_noteUnlike (a1 : Int32) (a2 : Int32) (a3 : Int32) (a4 : Int32) (g0 : cm_M) (Post : cm_M → Prop) : Prop := (((g0.2.2 30 0) = 0) → (∀ g2 : cm_M, g2 = cm_s g0 30 1 → (∀ g3 : cm_M, g3 = cm_a g2 29 0 (g2.2.2 33 0) → (∀ g4 : cm_M, g4 = cm_a g3 29 1 a1 → (∀ g5 : cm_M, g5 = cm_a g4 29 2 a2 → (∀ g6 : cm_M, g6 = cm_a g5 29 3 a3 → (∀ g7 : cm_M, g7 = cm_a g6 29 4 a4 → (Post g7)))))))) ∧ ((¬ (g0.2.2 30 0) = 0) → (Post g0))
set_option maxHeartbeats 4000000 in
set_option maxRecDepth 100000 in
theorem kc_X4_noteUnlike (l : Launch) (D : va_G) (cs : Nat → ClassId) (Y X : va_W) (ad : Nat → Nat) (a1 : Int32) (a2 : Int32) (a3 : Int32) (a4 : Int32) (g0 : cm_M) (Post : cm_M → Prop) (hV : vc_X4_noteUnlike a1 a2 a3 a4 g0 Post) : JV (wc_d Y X cs ad) D vwCl (jt_tys cs) l yX4_noteUnlike wsX4_noteUnlike rm_X4_noteUnlike 0 0 [.ref (ad 3), .int a1, .int a2, .int a3, .int a4] g0 Post := by
  refine jj_metV (cc := cX4_noteUnlike) (nL := 5) (ret := none) (by decide) rfl (Nat.le_of_ble_eq_true rfl) [(0, .ref (ad 3)), (1, .int a1), (2, .int a2), (3, .int a3), (4, .int a4)] rfl ?_
  intro p e s m args below meth c hC hnm
  rw [vc_X4_noteUnlike] at hV
  refine jj_aload_n (pc2 := 1) hC dX4_noteUnlike_0 rfl 0 rfl rfl ?_
  refine cg_H_hasUnlike (pc2 := 4) hC hi_X4_noteUnlike_X4 lk_X4_noteUnlike_1 dX4_noteUnlike_1 rfl ?_
  refine jj_if_eq (pc2 := 7) hC 8 dX4_noteUnlike_4 (by decide) rfl (fun h1 => ?_) (fun h1 => ?_)
  · have hV := hV.1 h1
    refine jj_aload_n (pc2 := 9) hC dX4_noteUnlike_8 rfl 0 rfl rfl ?_
    refine jj_iconst (pc2 := 10) hC 1 dX4_noteUnlike_9 (by decide) rfl ?_
    refine cp_H_hasUnlike (pc2 := 13) hC hi_X4_noteUnlike_X4 lk_X4_noteUnlike_1 jj_nb1 dX4_noteUnlike_10 rfl (fun g2 eg2 => ?_)
    have hV := hV g2 eg2
    refine jj_aload_n (pc2 := 14) hC dX4_noteUnlike_13 rfl 0 rfl rfl ?_
    refine cg_H_firstUnlike (pc2 := 17) hC hi_X4_noteUnlike_X4 lk_X4_noteUnlike_2 dX4_noteUnlike_14 rfl ?_
    refine jj_iconst (pc2 := 18) hC 0 dX4_noteUnlike_17 (by decide) rfl ?_
    refine jj_aload_n (pc2 := 19) hC dX4_noteUnlike_18 rfl 0 rfl rfl ?_
    refine cg_H_besides (pc2 := 22) hC hi_X4_noteUnlike_X4 lk_X4_noteUnlike_3 dX4_noteUnlike_19 rfl ?_
    refine ct_H_firstUnlike (pc2 := 23) hC (jx_lit (by decide) (by decide)) dX4_noteUnlike_22 rfl (fun g3 eg3 => ?_)
    have hV := hV g3 eg3
    refine jj_aload_n (pc2 := 24) hC dX4_noteUnlike_23 rfl 0 rfl rfl ?_
    refine cg_H_firstUnlike (pc2 := 27) hC hi_X4_noteUnlike_X4 lk_X4_noteUnlike_2 dX4_noteUnlike_24 rfl ?_
    refine jj_iconst (pc2 := 28) hC 1 dX4_noteUnlike_27 (by decide) rfl ?_
    refine jj_iload_n (pc2 := 29) hC dX4_noteUnlike_28 rfl 1 rfl rfl ?_
    refine ct_H_firstUnlike (pc2 := 30) hC (jx_lit (by decide) (by decide)) dX4_noteUnlike_29 rfl (fun g4 eg4 => ?_)
    have hV := hV g4 eg4
    refine jj_aload_n (pc2 := 31) hC dX4_noteUnlike_30 rfl 0 rfl rfl ?_
    refine cg_H_firstUnlike (pc2 := 34) hC hi_X4_noteUnlike_X4 lk_X4_noteUnlike_2 dX4_noteUnlike_31 rfl ?_
    refine jj_iconst (pc2 := 35) hC 2 dX4_noteUnlike_34 (by decide) rfl ?_
    refine jj_iload_n (pc2 := 36) hC dX4_noteUnlike_35 rfl 2 rfl rfl ?_
    refine ct_H_firstUnlike (pc2 := 37) hC (jx_lit (by decide) (by decide)) dX4_noteUnlike_36 rfl (fun g5 eg5 => ?_)
    have hV := hV g5 eg5
    refine jj_aload_n (pc2 := 38) hC dX4_noteUnlike_37 rfl 0 rfl rfl ?_
    refine cg_H_firstUnlike (pc2 := 41) hC hi_X4_noteUnlike_X4 lk_X4_noteUnlike_2 dX4_noteUnlike_38 rfl ?_
    refine jj_iconst (pc2 := 42) hC 3 dX4_noteUnlike_41 (by decide) rfl ?_
    refine jj_iload_n (pc2 := 43) hC dX4_noteUnlike_42 rfl 3 rfl rfl ?_
    refine ct_H_firstUnlike (pc2 := 44) hC (jx_lit (by decide) (by decide)) dX4_noteUnlike_43 rfl (fun g6 eg6 => ?_)
    have hV := hV g6 eg6
    refine jj_aload_n (pc2 := 45) hC dX4_noteUnlike_44 rfl 0 rfl rfl ?_
    refine cg_H_firstUnlike (pc2 := 48) hC hi_X4_noteUnlike_X4 lk_X4_noteUnlike_2 dX4_noteUnlike_45 rfl ?_
    refine jj_iconst (pc2 := 49) hC 4 dX4_noteUnlike_48 (by decide) rfl ?_
    refine jj_iload (pc2 := 51) hC dX4_noteUnlike_49 4 rfl rfl ?_
    refine ct_H_firstUnlike (pc2 := 52) hC (jx_lit (by decide) (by decide)) dX4_noteUnlike_51 rfl (fun g7 eg7 => ?_)
    have hV := hV g7 eg7
    exact jj_vret hC dX4_noteUnlike_52 hV
  · have hV := hV.2 h1
    exact jj_vret hC dX4_noteUnlike_7 hV
theorem hi_X4_unlikeCells_X4 : ∀ w ∈ u_ws RX4 TX4 11, w ∈ wsX4_unlikeCells := fun _ h => List.mem_cons_of_mem _ (List.mem_append_right _ h)
theorem lk_X4_unlikeCells_2 : Cond.fieldLink RX4 15 "PartedHouse$Houses" "newCells" "[I" ∈ wsX4_unlikeCells := List.mem_of_getElem? (i := 2) rfl
theorem lk_X4_unlikeCells_1 : Cond.fieldLink RX4 9 "PartedHouse$Houses" "oldCells" "[I" ∈ wsX4_unlikeCells := List.mem_of_getElem? (i := 1) rfl
abbrev rm_X4_unlikeCells : Room := { frames := 0, cells := 0, slots := 0, locals := 0 }
def vc_X4_unlikeCells_4 (g0 : cm_M) (Post : Int32 → Prop) : Nat → Int32 → Int32 → Prop
  | 0, _, _ => False
  | f + 1, x1, x2 => ((128 ≤ x2) → (Post x1)) ∧ ((¬ 128 ≤ x2) → ((vp_in x2 128) ∧ ((vp_in x2 128) ∧ ((((g0.2.2 25 x2.toNatClampNeg) = (g0.2.2 26 x2.toNatClampNeg)) → (vc_X4_unlikeCells_4 g0 Post f x1 (x2 + 1))) ∧ ((¬ (g0.2.2 25 x2.toNatClampNeg) = (g0.2.2 26 x2.toNatClampNeg)) → (vc_X4_unlikeCells_4 g0 Post f (x1 + 1) (x2 + 1)))))))
def vc_X4_unlikeCells (g0 : cm_M) (Post : Int32 → Prop) : Prop := ∃ n3 : Nat, vc_X4_unlikeCells_4 g0 Post n3 0 0
set_option maxHeartbeats 4000000 in
set_option maxRecDepth 100000 in
theorem ac_X4_unlikeCells_4 {p : Program} {l : Launch} {e : Env} {s : State} {m : MethodId} {args : Array Value} {below : List Frame} {meth : Method} {c : Code} {D : va_G} {cs : Nat → ClassId} {Y X : va_W} {ad : Nat → Nat} {g0 : cm_M} (hC : JC p s m args meth c D vwCl (va_A (wc_d Y X cs ad g0) s.heap.size) 3 cX4_unlikeCells (some .int) wsX4_unlikeCells RX4 (jt_tys cs)) (Post : Int32 → Prop) : ∀ (f : Nat) (x1 : Int32) (x2 : Int32), vc_X4_unlikeCells_4 g0 Post f x1 x2 → JJ (wc_d Y X cs ad) p l e rm_X4_unlikeCells s m args below meth c D vwCl (va_A (wc_d Y X cs ad g0) s.heap.size) 3 0 0 (MQ below (jj_QI (wc_d Y X cs ad) D vwCl (jt_tys cs) g0 s.heap.size (fun r g2 => Post r ∧ g2 = g0)) args s 0 0 (va_A (wc_d Y X cs ad g0) s.heap.size)) 4 [(0, .ref (ad 3)), (1, .int x1), (2, .int x2)] [] g0 := by
  intro f
  induction f with
  | zero => intro x1 x2 hV; exact hV.elim
  | succ f ih =>
    intro x1 x2 hV
    rw [vc_X4_unlikeCells_4] at hV
    refine jj_iload_n (pc2 := 5) hC dX4_unlikeCells_4 rfl 2 rfl rfl ?_
    refine jj_sipush (pc2 := 8) hC 128 dX4_unlikeCells_5 (by decide) rfl ?_
    refine jj_icmp_ge (pc2 := 11) hC 35 dX4_unlikeCells_8 (by decide) rfl (fun h1 => ?_) (fun h1 => ?_)
    · have hV := hV.1 h1
      refine jj_iload_n (pc2 := 36) hC dX4_unlikeCells_35 rfl 1 rfl rfl ?_
      exact jj_iret hC dX4_unlikeCells_36 ⟨hV, rfl⟩
    · have hV := hV.2 h1
      refine jj_aload_n (pc2 := 12) hC dX4_unlikeCells_11 rfl 0 rfl rfl ?_
      refine cg_H_oldCells (pc2 := 15) hC hi_X4_unlikeCells_X4 lk_X4_unlikeCells_1 dX4_unlikeCells_12 rfl ?_
      refine jj_iload_n (pc2 := 16) hC dX4_unlikeCells_15 rfl 2 rfl rfl ?_
      refine cl_H_oldCells (pc2 := 17) hC hV.1 dX4_unlikeCells_16 rfl ?_
      have hV := hV.2
      refine jj_aload_n (pc2 := 18) hC dX4_unlikeCells_17 rfl 0 rfl rfl ?_
      refine cg_H_newCells (pc2 := 21) hC hi_X4_unlikeCells_X4 lk_X4_unlikeCells_2 dX4_unlikeCells_18 rfl ?_
      refine jj_iload_n (pc2 := 22) hC dX4_unlikeCells_21 rfl 2 rfl rfl ?_
      refine cl_H_newCells (pc2 := 23) hC hV.1 dX4_unlikeCells_22 rfl ?_
      have hV := hV.2
      refine jj_icmp_eq (pc2 := 26) hC 29 dX4_unlikeCells_23 (by decide) rfl (fun h2 => ?_) (fun h2 => ?_)
      · have hV := hV.1 h2
        refine jj_iinc (pc2 := 32) hC (x2 + 1) [(2, .int (x2 + 1)), (0, .ref (ad 3)), (1, .int x1)] dX4_unlikeCells_29 2 rfl rfl (by decide) rfl rfl ?_
        refine jj_goto hC 4 dX4_unlikeCells_32 (by decide) ?_
        exact jj_sub (lv2 := [(0, .ref (ad 3)), (1, .int x1), (2, .int (x2 + 1))]) [1, 2, 0] rfl (ih x1 (x2 + 1) hV)
      · have hV := hV.2 h2
        refine jj_iinc (pc2 := 29) hC (x1 + 1) [(1, .int (x1 + 1)), (0, .ref (ad 3)), (2, .int x2)] dX4_unlikeCells_26 1 rfl rfl (by decide) rfl rfl ?_
        refine jj_iinc (pc2 := 32) hC (x2 + 1) [(2, .int (x2 + 1)), (1, .int (x1 + 1)), (0, .ref (ad 3))] dX4_unlikeCells_29 2 rfl rfl (by decide) rfl rfl ?_
        refine jj_goto hC 4 dX4_unlikeCells_32 (by decide) ?_
        exact jj_sub (lv2 := [(0, .ref (ad 3)), (1, .int (x1 + 1)), (2, .int (x2 + 1))]) [2, 1, 0] rfl (ih (x1 + 1) (x2 + 1) hV)
set_option maxHeartbeats 4000000 in
set_option maxRecDepth 100000 in
theorem kc_X4_unlikeCells (l : Launch) (D : va_G) (cs : Nat → ClassId) (Y X : va_W) (ad : Nat → Nat) (g0 : cm_M) (Post : Int32 → Prop) (hV : vc_X4_unlikeCells g0 Post) : JI (wc_d Y X cs ad) D vwCl (jt_tys cs) l yX4_unlikeCells wsX4_unlikeCells rm_X4_unlikeCells 0 0 [.ref (ad 3)] g0 (fun r g2 => Post r ∧ g2 = g0) := by
  refine jj_metI (cc := cX4_unlikeCells) (nL := 3) (ret := (some .int)) (by decide) rfl (Nat.le_of_ble_eq_true rfl) [(0, .ref (ad 3))] rfl ?_
  intro p e s m args below meth c hC hnm
  rw [vc_X4_unlikeCells] at hV
  refine jj_iconst (pc2 := 1) hC 0 dX4_unlikeCells_0 (by decide) rfl ?_
  refine jj_istore_n (pc2 := 2) hC [(1, .int 0), (0, .ref (ad 3))] dX4_unlikeCells_1 rfl (by decide) rfl rfl ?_
  refine jj_iconst (pc2 := 3) hC 0 dX4_unlikeCells_2 (by decide) rfl ?_
  refine jj_istore_n (pc2 := 4) hC [(2, .int 0), (1, .int 0), (0, .ref (ad 3))] dX4_unlikeCells_3 rfl (by decide) rfl rfl ?_
  obtain ⟨n3, hV⟩ := hV
  refine jj_sub (lv2 := [(0, .ref (ad 3)), (1, .int 0), (2, .int 0)]) [2, 1, 0] rfl (ac_X4_unlikeCells_4 hC Post n3 0 0 hV)
theorem hi_X4_renew_X4 : ∀ w ∈ u_ws RX4 TX4 11, w ∈ wsX4_renew := fun _ h => List.mem_cons_of_mem _ (List.mem_append_left _ (List.mem_append_right _ h))
theorem lk_X4_renew_10 : Cond.fieldLink RX4 90 "PartedHouse$Houses" "besides" "I" ∈ wsX4_renew := List.mem_of_getElem? (i := 10) rfl
theorem lk_X4_renew_9 : Cond.fieldLink RX4 86 "PartedHouse$Houses" "hasUnlike" "Z" ∈ wsX4_renew := List.mem_of_getElem? (i := 9) rfl
theorem hi_X4_renew_X6 : ∀ w ∈ u_ws RX6 TX6 5, w ∈ wsX4_renew := fun _ h => List.mem_cons_of_mem _ (List.mem_append_right _ h)
theorem lk_X4_renew_8 : Cond.fieldLink RX4 99 "PartedHouse$Letters" "waits" "I" ∈ wsX4_renew := List.mem_of_getElem? (i := 8) rfl
theorem lk_X4_renew_7 : Cond.fieldLink RX4 34 "PartedHouse$Houses" "letters" "LPartedHouse$Letters;" ∈ wsX4_renew := List.mem_of_getElem? (i := 7) rfl
theorem lk_X4_renew_3 : Cond.methodLink RX4 93 arraycopyName ∈ wsX4_renew := List.mem_of_getElem? (i := 3) rfl
theorem lk_X4_renew_4 : Cond.native arraycopyName ∈ wsX4_renew := List.mem_of_getElem? (i := 4) rfl
theorem lk_X4_renew_5 : Cond.static arraycopyName ∈ wsX4_renew := List.mem_of_getElem? (i := 5) rfl
theorem lk_X4_renew_6 : Cond.initialized "java/lang/System" ∈ wsX4_renew := List.mem_of_getElem? (i := 6) rfl
theorem lk_X4_renew_2 : Cond.fieldLink RX4 15 "PartedHouse$Houses" "newCells" "[I" ∈ wsX4_renew := List.mem_of_getElem? (i := 2) rfl
theorem lk_X4_renew_1 : Cond.fieldLink RX4 9 "PartedHouse$Houses" "oldCells" "[I" ∈ wsX4_renew := List.mem_of_getElem? (i := 1) rfl
abbrev rm_X4_renew : Room := { frames := 1, cells := 0, slots := 0, locals := 40 }
def vc_X4_renew (g0 : cm_M) (Post : cm_M → Prop) : Prop := ∀ g1 : cm_M, g1 = cm_u g0 26 (va_cpy (g0.2.2 25) (g0.2.2 26) 0 0 128) → (∀ g2 : cm_M, g2 = cm_s g1 41 0 → (∀ g3 : cm_M, g3 = cm_s g2 30 0 → (∀ g4 : cm_M, g4 = cm_s g3 33 0 → (Post g4))))
set_option maxHeartbeats 4000000 in
set_option maxRecDepth 100000 in
theorem kc_X4_renew (l : Launch) (D : va_G) (cs : Nat → ClassId) (Y X : va_W) (ad : Nat → Nat) (g0 : cm_M) (Post : cm_M → Prop) (hV : vc_X4_renew g0 Post) : JV (wc_d Y X cs ad) D vwCl (jt_tys cs) l yX4_renew wsX4_renew rm_X4_renew 0 0 [.ref (ad 3)] g0 Post := by
  refine jj_metV (cc := cX4_renew) (nL := 1) (ret := none) (by decide) rfl (Nat.le_of_ble_eq_true rfl) [(0, .ref (ad 3))] rfl ?_
  intro p e s m args below meth c hC hnm
  rw [vc_X4_renew] at hV
  refine jj_aload_n (pc2 := 1) hC dX4_renew_0 rfl 0 rfl rfl ?_
  refine cg_H_oldCells (pc2 := 4) hC hi_X4_renew_X4 lk_X4_renew_1 dX4_renew_1 rfl ?_
  refine jj_iconst (pc2 := 5) hC 0 dX4_renew_4 (by decide) rfl ?_
  refine jj_aload_n (pc2 := 6) hC dX4_renew_5 rfl 0 rfl rfl ?_
  refine cg_H_newCells (pc2 := 9) hC hi_X4_renew_X4 lk_X4_renew_2 dX4_renew_6 rfl ?_
  refine jj_iconst (pc2 := 10) hC 0 dX4_renew_9 (by decide) rfl ?_
  refine jj_sipush (pc2 := 13) hC 128 dX4_renew_10 (by decide) rfl ?_
  refine jj_copyi (pc2 := 16) (wd := wc_d Y X cs ad) (g := g0) (rest := []) hC lk_X4_renew_3 lk_X4_renew_4 lk_X4_renew_5 lk_X4_renew_6 (Y.length + 30) (Y.length + 31) 0 (jx_at (V := wc_W cs ad g0) rfl) (jx_at (V := wc_W cs ad g0) rfl) rfl (by decide) (by decide) (by decide) (sN := 0) (dN := 0) (nN := 128) (by decide) (by decide) (by decide) (by decide) (by decide) (by decide) (Nat.le_of_ble_eq_true rfl) (cm_u g0 26 (va_cpy (g0.2.2 25) (g0.2.2 26) 0 0 128)) (jx_set (V := wc_W cs ad g0) (V2 := wc_W cs ad (cm_u g0 26 (va_cpy (g0.2.2 25) (g0.2.2 26) 0 0 128))) (Nat.le_of_ble_eq_true rfl) rfl) dX4_renew_13 rfl ?_
  refine jj_mem (fun g1 eg1 => ?_)
  have hV := hV g1 eg1
  refine jj_aload_n (pc2 := 17) hC dX4_renew_16 rfl 0 rfl rfl ?_
  refine cg_H_letters (pc2 := 20) hC hi_X4_renew_X4 lk_X4_renew_7 dX4_renew_17 rfl ?_
  refine jj_iconst (pc2 := 21) hC 0 dX4_renew_20 (by decide) rfl ?_
  refine cp_L_waits (pc2 := 24) hC hi_X4_renew_X6 lk_X4_renew_8 dX4_renew_21 rfl (fun g2 eg2 => ?_)
  have hV := hV g2 eg2
  refine jj_aload_n (pc2 := 25) hC dX4_renew_24 rfl 0 rfl rfl ?_
  refine jj_iconst (pc2 := 26) hC 0 dX4_renew_25 (by decide) rfl ?_
  refine cp_H_hasUnlike (pc2 := 29) hC hi_X4_renew_X4 lk_X4_renew_9 jj_nb0 dX4_renew_26 rfl (fun g3 eg3 => ?_)
  have hV := hV g3 eg3
  refine jj_aload_n (pc2 := 30) hC dX4_renew_29 rfl 0 rfl rfl ?_
  refine jj_iconst (pc2 := 31) hC 0 dX4_renew_30 (by decide) rfl ?_
  refine cp_H_besides (pc2 := 34) hC hi_X4_renew_X4 lk_X4_renew_10 dX4_renew_31 rfl (fun g4 eg4 => ?_)
  have hV := hV g4 eg4
  exact jj_vret hC dX4_renew_34 hV
theorem hi_X5_has_X5 : ∀ w ∈ u_ws RX5 TX5 5, w ∈ wsX5_has := fun _ h => List.mem_cons_of_mem _ (List.mem_append_right _ h)
theorem lk_X5_has_1 : Cond.fieldLink RX5 24 "PartedHouse$Laws" "made" "I" ∈ wsX5_has := List.mem_of_getElem? (i := 1) rfl
abbrev rm_X5_has : Room := { frames := 0, cells := 0, slots := 0, locals := 0 }
def vc_X5_has (a1 : Int32) (g0 : cm_M) (Post : Int32 → Prop) : Prop := ((a1 < 0) → (Post 0)) ∧ ((¬ a1 < 0) → ((((g0.2.2 59 0) ≤ a1) → (Post 0)) ∧ ((¬ (g0.2.2 59 0) ≤ a1) → (Post 1))))
set_option maxHeartbeats 4000000 in
set_option maxRecDepth 100000 in
theorem kc_X5_has (l : Launch) (D : va_G) (cs : Nat → ClassId) (Y X : va_W) (ad : Nat → Nat) (a1 : Int32) (g0 : cm_M) (Post : Int32 → Prop) (hV : vc_X5_has a1 g0 Post) : JI (wc_d Y X cs ad) D vwCl (jt_tys cs) l yX5_has wsX5_has rm_X5_has 0 0 [.ref (ad 9), .int a1] g0 (fun r g2 => Post r ∧ g2 = g0) := by
  refine jj_metI (cc := cX5_has) (nL := 2) (ret := (some .boolean)) (by decide) rfl (Nat.le_of_ble_eq_true rfl) [(0, .ref (ad 9)), (1, .int a1)] rfl ?_
  intro p e s m args below meth c hC hnm
  rw [vc_X5_has] at hV
  refine jj_iload_n (pc2 := 1) hC dX5_has_0 rfl 1 rfl rfl ?_
  refine jj_if_lt (pc2 := 4) hC 16 dX5_has_1 (by decide) rfl (fun h1 => ?_) (fun h1 => ?_)
  · have hV := hV.1 h1
    refine jj_iconst (pc2 := 17) hC 0 dX5_has_16 (by decide) rfl ?_
    exact jj_zret hC jj_nb0 dX5_has_17 ⟨hV, rfl⟩
  · have hV := hV.2 h1
    refine jj_iload_n (pc2 := 5) hC dX5_has_4 rfl 1 rfl rfl ?_
    refine jj_aload_n (pc2 := 6) hC dX5_has_5 rfl 0 rfl rfl ?_
    refine cg_B_made (pc2 := 9) hC hi_X5_has_X5 lk_X5_has_1 dX5_has_6 rfl ?_
    refine jj_icmp_ge (pc2 := 12) hC 16 dX5_has_9 (by decide) rfl (fun h2 => ?_) (fun h2 => ?_)
    · have hV := hV.1 h2
      refine jj_iconst (pc2 := 17) hC 0 dX5_has_16 (by decide) rfl ?_
      exact jj_zret hC jj_nb0 dX5_has_17 ⟨hV, rfl⟩
    · have hV := hV.2 h2
      refine jj_iconst (pc2 := 13) hC 1 dX5_has_12 (by decide) rfl ?_
      refine jj_goto hC 17 dX5_has_13 (by decide) ?_
      exact jj_zret hC jj_nb1 dX5_has_17 ⟨hV, rfl⟩
theorem hi_X5_addLaw_X5 : ∀ w ∈ u_ws RX5 TX5 5, w ∈ wsX5_addLaw := fun _ h => List.mem_cons_of_mem _ (List.mem_append_right _ h)
theorem lk_X5_addLaw_2 : Cond.fieldLink RX5 24 "PartedHouse$Laws" "made" "I" ∈ wsX5_addLaw := List.mem_of_getElem? (i := 2) rfl
theorem lk_X5_addLaw_1 : Cond.fieldLink RX5 15 "PartedHouse$Laws" "leasts" "[I" ∈ wsX5_addLaw := List.mem_of_getElem? (i := 1) rfl
abbrev rm_X5_addLaw : Room := { frames := 0, cells := 0, slots := 0, locals := 0 }
def vc_X5_addLaw (a1 : Int32) (g0 : cm_M) (Post : Int32 → cm_M → Prop) : Prop := (vp_in (g0.2.2 59 0) 10) ∧ (∀ g1 : cm_M, g1 = cm_a g0 56 (g0.2.2 59 0) a1 → (∀ g2 : cm_M, g2 = cm_s g1 59 ((g1.2.2 59 0) + 1) → (Post (g1.2.2 59 0) g2)))
set_option maxHeartbeats 4000000 in
set_option maxRecDepth 100000 in
theorem kc_X5_addLaw (l : Launch) (D : va_G) (cs : Nat → ClassId) (Y X : va_W) (ad : Nat → Nat) (a1 : Int32) (g0 : cm_M) (Post : Int32 → cm_M → Prop) (hV : vc_X5_addLaw a1 g0 Post) : JI (wc_d Y X cs ad) D vwCl (jt_tys cs) l yX5_addLaw wsX5_addLaw rm_X5_addLaw 0 0 [.ref (ad 9), .int a1] g0 Post := by
  refine jj_metI (cc := cX5_addLaw) (nL := 2) (ret := (some .int)) (by decide) rfl (Nat.le_of_ble_eq_true rfl) [(0, .ref (ad 9)), (1, .int a1)] rfl ?_
  intro p e s m args below meth c hC hnm
  rw [vc_X5_addLaw] at hV
  refine jj_aload_n (pc2 := 1) hC dX5_addLaw_0 rfl 0 rfl rfl ?_
  refine cg_B_leasts (pc2 := 4) hC hi_X5_addLaw_X5 lk_X5_addLaw_1 dX5_addLaw_1 rfl ?_
  refine jj_aload_n (pc2 := 5) hC dX5_addLaw_4 rfl 0 rfl rfl ?_
  refine cg_B_made (pc2 := 8) hC hi_X5_addLaw_X5 lk_X5_addLaw_2 dX5_addLaw_5 rfl ?_
  refine jj_iload_n (pc2 := 9) hC dX5_addLaw_8 rfl 1 rfl rfl ?_
  refine ct_B_leasts (pc2 := 10) hC hV.1 dX5_addLaw_9 rfl (fun g1 eg1 => ?_)
  have hV := hV.2 g1 eg1
  refine jj_aload_n (pc2 := 11) hC dX5_addLaw_10 rfl 0 rfl rfl ?_
  refine jj_dup (pc2 := 12) hC dX5_addLaw_11 rfl rfl ?_
  refine cg_B_made (pc2 := 15) hC hi_X5_addLaw_X5 lk_X5_addLaw_2 dX5_addLaw_12 rfl ?_
  refine jj_dup_x1 (pc2 := 16) hC dX5_addLaw_15 rfl rfl rfl ?_
  refine jj_iconst (pc2 := 17) hC 1 dX5_addLaw_16 (by decide) rfl ?_
  refine jj_iadd (pc2 := 18) hC dX5_addLaw_17 rfl ?_
  refine cp_B_made (pc2 := 21) hC hi_X5_addLaw_X5 lk_X5_addLaw_2 dX5_addLaw_18 rfl (fun g2 eg2 => ?_)
  have hV := hV g2 eg2
  exact jj_iret hC dX5_addLaw_21 hV
theorem hi_X5_addTerm_X5 : ∀ w ∈ u_ws RX5 TX5 5, w ∈ wsX5_addTerm := fun _ h => List.mem_cons_of_mem _ (List.mem_append_right _ h)
theorem lk_X5_addTerm_1 : Cond.fieldLink RX5 9 "PartedHouse$Laws" "lengths" "[I" ∈ wsX5_addTerm := List.mem_of_getElem? (i := 1) rfl
theorem lk_X5_addTerm_3 : Cond.fieldLink RX5 21 "PartedHouse$Laws" "factors" "[I" ∈ wsX5_addTerm := List.mem_of_getElem? (i := 3) rfl
theorem lk_X5_addTerm_2 : Cond.fieldLink RX5 18 "PartedHouse$Laws" "cells" "[I" ∈ wsX5_addTerm := List.mem_of_getElem? (i := 2) rfl
abbrev rm_X5_addTerm : Room := { frames := 0, cells := 0, slots := 0, locals := 0 }
def vc_X5_addTerm (a1 : Int32) (a2 : Int32) (a3 : Int32) (g0 : cm_M) (Post : Int32 → cm_M → Prop) : Prop := (vp_in a1 10) ∧ (∀ y1 : Int32, y1 = (a1 * 6) + (g0.2.2 55 a1.toNatClampNeg) → ((vp_in y1 60) ∧ (∀ g2 : cm_M, g2 = cm_a g0 57 y1 a2 → ((vp_in y1 60) ∧ (∀ g3 : cm_M, g3 = cm_a g2 58 y1 a3 → ((vp_in a1 10) ∧ ((vp_in a1 10) ∧ (∀ g4 : cm_M, g4 = cm_a g3 55 a1 ((g3.2.2 55 a1.toNatClampNeg) + 1) → ((vp_in a1 10) ∧ (Post (g4.2.2 55 a1.toNatClampNeg) g4))))))))))
set_option maxHeartbeats 4000000 in
set_option maxRecDepth 100000 in
theorem kc_X5_addTerm (l : Launch) (D : va_G) (cs : Nat → ClassId) (Y X : va_W) (ad : Nat → Nat) (a1 : Int32) (a2 : Int32) (a3 : Int32) (g0 : cm_M) (Post : Int32 → cm_M → Prop) (hV : vc_X5_addTerm a1 a2 a3 g0 Post) : JI (wc_d Y X cs ad) D vwCl (jt_tys cs) l yX5_addTerm wsX5_addTerm rm_X5_addTerm 0 0 [.ref (ad 9), .int a1, .int a2, .int a3] g0 Post := by
  refine jj_metI (cc := cX5_addTerm) (nL := 5) (ret := (some .int)) (by decide) rfl (Nat.le_of_ble_eq_true rfl) [(0, .ref (ad 9)), (1, .int a1), (2, .int a2), (3, .int a3)] rfl ?_
  intro p e s m args below meth c hC hnm
  rw [vc_X5_addTerm] at hV
  refine jj_iload_n (pc2 := 1) hC dX5_addTerm_0 rfl 1 rfl rfl ?_
  refine jj_bipush (pc2 := 3) hC 6 dX5_addTerm_1 (by decide) rfl ?_
  refine jj_imul (pc2 := 4) hC dX5_addTerm_3 rfl ?_
  refine jj_aload_n (pc2 := 5) hC dX5_addTerm_4 rfl 0 rfl rfl ?_
  refine cg_B_lengths (pc2 := 8) hC hi_X5_addTerm_X5 lk_X5_addTerm_1 dX5_addTerm_5 rfl ?_
  refine jj_iload_n (pc2 := 9) hC dX5_addTerm_8 rfl 1 rfl rfl ?_
  refine cl_B_lengths (pc2 := 10) hC hV.1 dX5_addTerm_9 rfl ?_
  have hV := hV.2
  refine jj_iadd (pc2 := 11) hC dX5_addTerm_10 rfl ?_
  refine jj_topi (fun y1 ey1 => ?_)
  have hV := hV y1 ey1
  refine jj_istore (pc2 := 13) hC [(4, .int y1), (0, .ref (ad 9)), (1, .int a1), (2, .int a2), (3, .int a3)] dX5_addTerm_11 (by decide) rfl rfl ?_
  refine jj_aload_n (pc2 := 14) hC dX5_addTerm_13 rfl 1 rfl rfl ?_
  refine cg_B_cells (pc2 := 17) hC hi_X5_addTerm_X5 lk_X5_addTerm_2 dX5_addTerm_14 rfl ?_
  refine jj_iload (pc2 := 19) hC dX5_addTerm_17 0 rfl rfl ?_
  refine jj_iload_n (pc2 := 20) hC dX5_addTerm_19 rfl 3 rfl rfl ?_
  refine ct_B_cells (pc2 := 21) hC hV.1 dX5_addTerm_20 rfl (fun g2 eg2 => ?_)
  have hV := hV.2 g2 eg2
  refine jj_aload_n (pc2 := 22) hC dX5_addTerm_21 rfl 1 rfl rfl ?_
  refine cg_B_factors (pc2 := 25) hC hi_X5_addTerm_X5 lk_X5_addTerm_3 dX5_addTerm_22 rfl ?_
  refine jj_iload (pc2 := 27) hC dX5_addTerm_25 0 rfl rfl ?_
  refine jj_iload_n (pc2 := 28) hC dX5_addTerm_27 rfl 4 rfl rfl ?_
  refine ct_B_factors (pc2 := 29) hC hV.1 dX5_addTerm_28 rfl (fun g3 eg3 => ?_)
  have hV := hV.2 g3 eg3
  refine jj_aload_n (pc2 := 30) hC dX5_addTerm_29 rfl 1 rfl rfl ?_
  refine cg_B_lengths (pc2 := 33) hC hi_X5_addTerm_X5 lk_X5_addTerm_1 dX5_addTerm_30 rfl ?_
  refine jj_iload_n (pc2 := 34) hC dX5_addTerm_33 rfl 2 rfl rfl ?_
  refine jj_dup2 (pc2 := 35) hC dX5_addTerm_34 rfl rfl rfl ?_
  refine cl_B_lengths (pc2 := 36) hC hV.1 dX5_addTerm_35 rfl ?_
  have hV := hV.2
  refine jj_iconst (pc2 := 37) hC 1 dX5_addTerm_36 (by decide) rfl ?_
  refine jj_iadd (pc2 := 38) hC dX5_addTerm_37 rfl ?_
  refine ct_B_lengths (pc2 := 39) hC hV.1 dX5_addTerm_38 rfl (fun g4 eg4 => ?_)
  have hV := hV.2 g4 eg4
  refine jj_aload_n (pc2 := 40) hC dX5_addTerm_39 rfl 1 rfl rfl ?_
  refine cg_B_lengths (pc2 := 43) hC hi_X5_addTerm_X5 lk_X5_addTerm_1 dX5_addTerm_40 rfl ?_
  refine jj_iload_n (pc2 := 44) hC dX5_addTerm_43 rfl 2 rfl rfl ?_
  refine cl_B_lengths (pc2 := 45) hC hV.1 dX5_addTerm_44 rfl ?_
  have hV := hV.2
  exact jj_iret hC dX5_addTerm_45 hV
theorem hi_X6_knows_X6 : ∀ w ∈ u_ws RX6 TX6 5, w ∈ wsX6_knows := fun _ h => List.mem_cons_of_mem _ (List.mem_append_right _ h)
theorem lk_X6_knows_1 : Cond.fieldLink RX6 21 "PartedHouse$Letters" "sent" "I" ∈ wsX6_knows := List.mem_of_getElem? (i := 1) rfl
abbrev rm_X6_knows : Room := { frames := 0, cells := 0, slots := 0, locals := 0 }
def vc_X6_knows (a1 : Int32) (g0 : cm_M) (Post : Int32 → Prop) : Prop := ((a1 < 0) → (Post 0)) ∧ ((¬ a1 < 0) → ((((g0.2.2 40 0) ≤ a1) → (Post 0)) ∧ ((¬ (g0.2.2 40 0) ≤ a1) → (Post 1))))
set_option maxHeartbeats 4000000 in
set_option maxRecDepth 100000 in
theorem kc_X6_knows (l : Launch) (D : va_G) (cs : Nat → ClassId) (Y X : va_W) (ad : Nat → Nat) (a1 : Int32) (g0 : cm_M) (Post : Int32 → Prop) (hV : vc_X6_knows a1 g0 Post) : JI (wc_d Y X cs ad) D vwCl (jt_tys cs) l yX6_knows wsX6_knows rm_X6_knows 0 0 [.ref (ad 5), .int a1] g0 (fun r g2 => Post r ∧ g2 = g0) := by
  refine jj_metI (cc := cX6_knows) (nL := 2) (ret := (some .boolean)) (by decide) rfl (Nat.le_of_ble_eq_true rfl) [(0, .ref (ad 5)), (1, .int a1)] rfl ?_
  intro p e s m args below meth c hC hnm
  rw [vc_X6_knows] at hV
  refine jj_iload_n (pc2 := 1) hC dX6_knows_0 rfl 1 rfl rfl ?_
  refine jj_if_lt (pc2 := 4) hC 16 dX6_knows_1 (by decide) rfl (fun h1 => ?_) (fun h1 => ?_)
  · have hV := hV.1 h1
    refine jj_iconst (pc2 := 17) hC 0 dX6_knows_16 (by decide) rfl ?_
    exact jj_zret hC jj_nb0 dX6_knows_17 ⟨hV, rfl⟩
  · have hV := hV.2 h1
    refine jj_iload_n (pc2 := 5) hC dX6_knows_4 rfl 1 rfl rfl ?_
    refine jj_aload_n (pc2 := 6) hC dX6_knows_5 rfl 0 rfl rfl ?_
    refine cg_L_sent (pc2 := 9) hC hi_X6_knows_X6 lk_X6_knows_1 dX6_knows_6 rfl ?_
    refine jj_icmp_ge (pc2 := 12) hC 16 dX6_knows_9 (by decide) rfl (fun h2 => ?_) (fun h2 => ?_)
    · have hV := hV.1 h2
      refine jj_iconst (pc2 := 17) hC 0 dX6_knows_16 (by decide) rfl ?_
      exact jj_zret hC jj_nb0 dX6_knows_17 ⟨hV, rfl⟩
    · have hV := hV.2 h2
      refine jj_iconst (pc2 := 13) hC 1 dX6_knows_12 (by decide) rfl ?_
      refine jj_goto hC 17 dX6_knows_13 (by decide) ?_
      exact jj_zret hC jj_nb1 dX6_knows_17 ⟨hV, rfl⟩
theorem hi_X6_placeInWaiting_X6 : ∀ w ∈ u_ws RX6 TX6 5, w ∈ wsX6_placeInWaiting := fun _ h => List.mem_cons_of_mem _ (List.mem_append_right _ h)
theorem lk_X6_placeInWaiting_1 : Cond.fieldLink RX6 25 "PartedHouse$Letters" "waits" "I" ∈ wsX6_placeInWaiting := List.mem_of_getElem? (i := 1) rfl
theorem lk_X6_placeInWaiting_2 : Cond.fieldLink RX6 18 "PartedHouse$Letters" "waiting" "[I" ∈ wsX6_placeInWaiting := List.mem_of_getElem? (i := 2) rfl
abbrev rm_X6_placeInWaiting : Room := { frames := 0, cells := 0, slots := 0, locals := 0 }
def vc_X6_placeInWaiting_2 (x1 : Int32) (g0 : cm_M) (Post : Int32 → Prop) : Nat → Int32 → Prop
  | 0, _ => False
  | f + 1, x2 => (((g0.2.2 41 0) ≤ x2) → (Post (g0.2.2 41 0))) ∧ ((¬ (g0.2.2 41 0) ≤ x2) → ((vp_in x2 40) ∧ (((¬ (g0.2.2 39 x2.toNatClampNeg) = x1) → (vc_X6_placeInWaiting_2 x1 g0 Post f (x2 + 1))) ∧ (((g0.2.2 39 x2.toNatClampNeg) = x1) → (Post x2)))))
def vc_X6_placeInWaiting (a1 : Int32) (g0 : cm_M) (Post : Int32 → Prop) : Prop := ∃ n3 : Nat, vc_X6_placeInWaiting_2 a1 g0 Post n3 0
set_option maxHeartbeats 4000000 in
set_option maxRecDepth 100000 in
theorem ac_X6_placeInWaiting_2 {p : Program} {l : Launch} {e : Env} {s : State} {m : MethodId} {args : Array Value} {below : List Frame} {meth : Method} {c : Code} {D : va_G} {cs : Nat → ClassId} {Y X : va_W} {ad : Nat → Nat} {g0 : cm_M} (hC : JC p s m args meth c D vwCl (va_A (wc_d Y X cs ad g0) s.heap.size) 3 cX6_placeInWaiting (some .int) wsX6_placeInWaiting RX6 (jt_tys cs)) (x1 : Int32) (Post : Int32 → Prop) : ∀ (f : Nat) (x2 : Int32), vc_X6_placeInWaiting_2 x1 g0 Post f x2 → JJ (wc_d Y X cs ad) p l e rm_X6_placeInWaiting s m args below meth c D vwCl (va_A (wc_d Y X cs ad g0) s.heap.size) 3 0 0 (MQ below (jj_QI (wc_d Y X cs ad) D vwCl (jt_tys cs) g0 s.heap.size (fun r g2 => Post r ∧ g2 = g0)) args s 0 0 (va_A (wc_d Y X cs ad g0) s.heap.size)) 2 [(0, .ref (ad 5)), (1, .int x1), (2, .int x2)] [] g0 := by
  intro f
  induction f with
  | zero => intro x2 hV; exact hV.elim
  | succ f ih =>
    intro x2 hV
    rw [vc_X6_placeInWaiting_2] at hV
    refine jj_iload_n (pc2 := 3) hC dX6_placeInWaiting_2 rfl 2 rfl rfl ?_
    refine jj_aload_n (pc2 := 4) hC dX6_placeInWaiting_3 rfl 0 rfl rfl ?_
    refine cg_L_waits (pc2 := 7) hC hi_X6_placeInWaiting_X6 lk_X6_placeInWaiting_1 dX6_placeInWaiting_4 rfl ?_
    refine jj_icmp_ge (pc2 := 10) hC 28 dX6_placeInWaiting_7 (by decide) rfl (fun h1 => ?_) (fun h1 => ?_)
    · have hV := hV.1 h1
      refine jj_aload_n (pc2 := 29) hC dX6_placeInWaiting_28 rfl 0 rfl rfl ?_
      refine cg_L_waits (pc2 := 32) hC hi_X6_placeInWaiting_X6 lk_X6_placeInWaiting_1 dX6_placeInWaiting_29 rfl ?_
      exact jj_iret hC dX6_placeInWaiting_32 ⟨hV, rfl⟩
    · have hV := hV.2 h1
      refine jj_aload_n (pc2 := 11) hC dX6_placeInWaiting_10 rfl 0 rfl rfl ?_
      refine cg_L_waiting (pc2 := 14) hC hi_X6_placeInWaiting_X6 lk_X6_placeInWaiting_2 dX6_placeInWaiting_11 rfl ?_
      refine jj_iload_n (pc2 := 15) hC dX6_placeInWaiting_14 rfl 2 rfl rfl ?_
      refine cl_L_waiting (pc2 := 16) hC hV.1 dX6_placeInWaiting_15 rfl ?_
      have hV := hV.2
      refine jj_iload_n (pc2 := 17) hC dX6_placeInWaiting_16 rfl 1 rfl rfl ?_
      refine jj_icmp_ne (pc2 := 20) hC 22 dX6_placeInWaiting_17 (by decide) rfl (fun h2 => ?_) (fun h2 => ?_)
      · have hV := hV.1 h2
        refine jj_iinc (pc2 := 25) hC (x2 + 1) [(2, .int (x2 + 1)), (0, .ref (ad 5)), (1, .int x1)] dX6_placeInWaiting_22 2 rfl rfl (by decide) rfl rfl ?_
        refine jj_goto hC 2 dX6_placeInWaiting_25 (by decide) ?_
        exact jj_sub (lv2 := [(0, .ref (ad 5)), (1, .int x1), (2, .int (x2 + 1))]) [1, 2, 0] rfl (ih (x2 + 1) hV)
      · have hV := hV.2 h2
        refine jj_iload_n (pc2 := 21) hC dX6_placeInWaiting_20 rfl 2 rfl rfl ?_
        exact jj_iret hC dX6_placeInWaiting_21 ⟨hV, rfl⟩
set_option maxHeartbeats 4000000 in
set_option maxRecDepth 100000 in
theorem kc_X6_placeInWaiting (l : Launch) (D : va_G) (cs : Nat → ClassId) (Y X : va_W) (ad : Nat → Nat) (a1 : Int32) (g0 : cm_M) (Post : Int32 → Prop) (hV : vc_X6_placeInWaiting a1 g0 Post) : JI (wc_d Y X cs ad) D vwCl (jt_tys cs) l yX6_placeInWaiting wsX6_placeInWaiting rm_X6_placeInWaiting 0 0 [.ref (ad 5), .int a1] g0 (fun r g2 => Post r ∧ g2 = g0) := by
  refine jj_metI (cc := cX6_placeInWaiting) (nL := 3) (ret := (some .int)) (by decide) rfl (Nat.le_of_ble_eq_true rfl) [(0, .ref (ad 5)), (1, .int a1)] rfl ?_
  intro p e s m args below meth c hC hnm
  rw [vc_X6_placeInWaiting] at hV
  refine jj_iconst (pc2 := 1) hC 0 dX6_placeInWaiting_0 (by decide) rfl ?_
  refine jj_istore_n (pc2 := 2) hC [(2, .int 0), (0, .ref (ad 5)), (1, .int a1)] dX6_placeInWaiting_1 rfl (by decide) rfl rfl ?_
  obtain ⟨n3, hV⟩ := hV
  refine jj_sub (lv2 := [(0, .ref (ad 5)), (1, .int a1), (2, .int 0)]) [1, 2, 0] rfl (ac_X6_placeInWaiting_2 hC a1 Post n3 0 hV)
theorem lk_X6_fact_4 : Cond.constant RX6 41 (-2000000000) ∈ wsX6_fact := List.mem_of_getElem? (i := 4) rfl
theorem hi_X6_fact_X6 : ∀ w ∈ u_ws RX6 TX6 5, w ∈ wsX6_fact := fun _ h => List.mem_cons_of_mem _ (List.mem_append_right _ h)
theorem lk_X6_fact_1 : Cond.fieldLink RX6 15 "PartedHouse$Letters" "says" "[I" ∈ wsX6_fact := List.mem_of_getElem? (i := 1) rfl
theorem lk_X6_fact_2 : Cond.fieldLink RX6 11 "PartedHouse$Letters" "addresses" "[I" ∈ wsX6_fact := List.mem_of_getElem? (i := 2) rfl
theorem lk_X6_fact_3 : Cond.fieldLink RX6 25 "PartedHouse$Letters" "waits" "I" ∈ wsX6_fact := List.mem_of_getElem? (i := 3) rfl
abbrev rm_X6_fact : Room := { frames := 1, cells := 0, slots := 0, locals := 22 }
def vc_X6_fact (a1 : Int32) (a2 : Int32) (g0 : cm_M) (Post : Int32 → Prop) : Prop := ((a2.toInt < 0 ∨ 5 < a2.toInt) → (Post (-2000000000))) ∧ (a2 = 0 → (vc_X6_cellOf a1 g0 (fun (r2 : Int32) => Post (r2 / 8)))) ∧ (a2 = 1 → (vc_X6_cellOf a1 g0 (fun (r3 : Int32) => Post (r3 - r3 / 8 * 8)))) ∧ (a2 = 2 → ((vp_in a1 (g0.1.2.1 3)) ∧ (Post (g0.2.2 38 a1.toNatClampNeg)))) ∧ (a2 = 3 → ((vp_in a1 (g0.1.2.1 2)) ∧ (Post (((g0.2.2 37 a1.toNatClampNeg) / 6) - ((g0.2.2 37 a1.toNatClampNeg) / 6) / 6 * 6)))) ∧ (a2 = 4 → ((vp_in a1 (g0.1.2.1 2)) ∧ (Post ((g0.2.2 37 a1.toNatClampNeg) - (g0.2.2 37 a1.toNatClampNeg) / 6 * 6)))) ∧ (a2 = 5 → (vc_X6_placeInWaiting a1 g0 (fun (r4 : Int32) => (((g0.2.2 41 0) ≤ r4) → (Post 0)) ∧ ((¬ (g0.2.2 41 0) ≤ r4) → (Post 1)))))
set_option maxHeartbeats 4000000 in
set_option maxRecDepth 100000 in
theorem kc_X6_fact (l : Launch) (D : va_G) (cs : Nat → ClassId) (Y X : va_W) (ad : Nat → Nat) (a1 : Int32) (a2 : Int32) (g0 : cm_M) (Post : Int32 → Prop) (hV : vc_X6_fact a1 a2 g0 Post) : JI (wc_d Y X cs ad) D vwCl (jt_tys cs) l yX6_fact wsX6_fact rm_X6_fact 0 0 [.ref (ad 5), .int a1, .int a2] g0 (fun r g2 => Post r ∧ g2 = g0) := by
  refine jj_metI (cc := cX6_fact) (nL := 3) (ret := (some .int)) (by decide) rfl (Nat.le_of_ble_eq_true rfl) [(0, .ref (ad 5)), (1, .int a1), (2, .int a2)] rfl ?_
  intro p e s m args below meth c hC hnm
  rw [vc_X6_fact] at hV
  refine jj_iload_n (pc2 := 1) hC dX6_fact_0 rfl 2 rfl rfl ?_
  by_cases h1 : a2.toInt < 0 ∨ 5 < a2.toInt
  · have hV := hV.1 h1
    refine jj_tabOut hC 106 dX6_fact_1 h1 (by decide) ?_
    refine jj_ldc (pc2 := 108) hC lk_X6_fact_4 dX6_fact_106 rfl ?_
    exact jj_iret hC dX6_fact_108 ⟨hV, rfl⟩
  have hV := hV.2
  rcases jj_sw_0_5 a2 h1 with hs | hs | hs | hs | hs | hs
  · have hV := hV.1 hs
    refine jj_tabIn (off := 39) hC 40 dX6_fact_1 (fun q => h1 (Or.inl q)) (fun q => h1 (Or.inr q)) (by rw [hs]; decide) (by decide) ?_
    refine jj_aload_n (pc2 := 41) hC dX6_fact_40 rfl 0 rfl rfl ?_
    refine jj_iload_n (pc2 := 42) hC dX6_fact_41 rfl 1 rfl rfl ?_
    refine jj_cVIp (pc2 := 45) (wd := wc_d Y X cs ad) (g := g0) (rest := []) hC (Y.length + 5) (jx_at (V := wc_W cs ad g0) rfl) rfl rfl (kc_X6_cellOf l D cs Y X ad a1 g0 _ hV) (cwV 1 hC.1.2.2.2.2 gX6_fact_X6_cellOf rfl rfl rfl (by decide +kernel) ⟨by decide, by decide⟩) rfl (Nat.le_of_ble_eq_true rfl) _ rfl dX6_fact_42 ⟨Nat.zero_le _, Nat.zero_le _⟩ rfl (fun r2 hV => ?_)
    refine jj_bipush (pc2 := 47) hC 8 dX6_fact_45 (by decide) rfl ?_
    refine jj_idiv (pc2 := 48) hC dX6_fact_47 (by decide) rfl ?_
    exact jj_iret hC dX6_fact_48 ⟨hV, rfl⟩
  · have hV := hV.2.1 hs
    refine jj_tabIn (off := 48) hC 49 dX6_fact_1 (fun q => h1 (Or.inl q)) (fun q => h1 (Or.inr q)) (by rw [hs]; decide) (by decide) ?_
    refine jj_aload_n (pc2 := 50) hC dX6_fact_49 rfl 0 rfl rfl ?_
    refine jj_iload_n (pc2 := 51) hC dX6_fact_50 rfl 1 rfl rfl ?_
    refine jj_cVIp (pc2 := 54) (wd := wc_d Y X cs ad) (g := g0) (rest := []) hC (Y.length + 5) (jx_at (V := wc_W cs ad g0) rfl) rfl rfl (kc_X6_cellOf l D cs Y X ad a1 g0 _ hV) (cwV 1 hC.1.2.2.2.2 gX6_fact_X6_cellOf rfl rfl rfl (by decide +kernel) ⟨by decide, by decide⟩) rfl (Nat.le_of_ble_eq_true rfl) _ rfl dX6_fact_51 ⟨Nat.zero_le _, Nat.zero_le _⟩ rfl (fun r3 hV => ?_)
    refine jj_bipush (pc2 := 56) hC 8 dX6_fact_54 (by decide) rfl ?_
    refine jj_irem (pc2 := 57) hC dX6_fact_56 (by decide) rfl ?_
    exact jj_iret hC dX6_fact_57 ⟨hV, rfl⟩
  · have hV := hV.2.2.1 hs
    refine jj_tabIn (off := 57) hC 58 dX6_fact_1 (fun q => h1 (Or.inl q)) (fun q => h1 (Or.inr q)) (by rw [hs]; decide) (by decide) ?_
    refine jj_aload_n (pc2 := 59) hC dX6_fact_58 rfl 0 rfl rfl ?_
    refine cg_L_says (pc2 := 62) hC hi_X6_fact_X6 lk_X6_fact_1 dX6_fact_59 rfl ?_
    refine jj_iload_n (pc2 := 63) hC dX6_fact_62 rfl 1 rfl rfl ?_
    refine cl_L_says (pc2 := 64) hC hV.1 dX6_fact_63 rfl ?_
    have hV := hV.2
    exact jj_iret hC dX6_fact_64 ⟨hV, rfl⟩
  · have hV := hV.2.2.2.1 hs
    refine jj_tabIn (off := 64) hC 65 dX6_fact_1 (fun q => h1 (Or.inl q)) (fun q => h1 (Or.inr q)) (by rw [hs]; decide) (by decide) ?_
    refine jj_aload_n (pc2 := 66) hC dX6_fact_65 rfl 0 rfl rfl ?_
    refine cg_L_addresses (pc2 := 69) hC hi_X6_fact_X6 lk_X6_fact_2 dX6_fact_66 rfl ?_
    refine jj_iload_n (pc2 := 70) hC dX6_fact_69 rfl 1 rfl rfl ?_
    refine cl_L_addresses (pc2 := 71) hC hV.1 dX6_fact_70 rfl ?_
    have hV := hV.2
    refine jj_bipush (pc2 := 73) hC 6 dX6_fact_71 (by decide) rfl ?_
    refine jj_idiv (pc2 := 74) hC dX6_fact_73 (by decide) rfl ?_
    refine jj_bipush (pc2 := 76) hC 6 dX6_fact_74 (by decide) rfl ?_
    refine jj_irem (pc2 := 77) hC dX6_fact_76 (by decide) rfl ?_
    exact jj_iret hC dX6_fact_77 ⟨hV, rfl⟩
  · have hV := hV.2.2.2.2.1 hs
    refine jj_tabIn (off := 77) hC 78 dX6_fact_1 (fun q => h1 (Or.inl q)) (fun q => h1 (Or.inr q)) (by rw [hs]; decide) (by decide) ?_
    refine jj_aload_n (pc2 := 79) hC dX6_fact_78 rfl 0 rfl rfl ?_
    refine cg_L_addresses (pc2 := 82) hC hi_X6_fact_X6 lk_X6_fact_2 dX6_fact_79 rfl ?_
    refine jj_iload_n (pc2 := 83) hC dX6_fact_82 rfl 1 rfl rfl ?_
    refine cl_L_addresses (pc2 := 84) hC hV.1 dX6_fact_83 rfl ?_
    have hV := hV.2
    refine jj_bipush (pc2 := 86) hC 6 dX6_fact_84 (by decide) rfl ?_
    refine jj_irem (pc2 := 87) hC dX6_fact_86 (by decide) rfl ?_
    exact jj_iret hC dX6_fact_87 ⟨hV, rfl⟩
  · have hV := hV.2.2.2.2.2 hs
    refine jj_tabIn (off := 87) hC 88 dX6_fact_1 (fun q => h1 (Or.inl q)) (fun q => h1 (Or.inr q)) (by rw [hs]; decide) (by decide) ?_
    refine jj_aload_n (pc2 := 89) hC dX6_fact_88 rfl 0 rfl rfl ?_
    refine jj_iload_n (pc2 := 90) hC dX6_fact_89 rfl 1 rfl rfl ?_
    refine jj_cVIp (pc2 := 93) (wd := wc_d Y X cs ad) (g := g0) (rest := []) hC (Y.length + 5) (jx_at (V := wc_W cs ad g0) rfl) rfl rfl (kc_X6_placeInWaiting l D cs Y X ad a1 g0 _ hV) (cwV 1 hC.1.2.2.2.2 gX6_fact_X6_placeInWaiting rfl rfl rfl (by decide +kernel) ⟨by decide, by decide⟩) rfl (Nat.le_of_ble_eq_true rfl) _ rfl dX6_fact_90 ⟨Nat.zero_le _, Nat.zero_le _⟩ rfl (fun r4 hV => ?_)
    refine jj_aload_n (pc2 := 94) hC dX6_fact_93 rfl 0 rfl rfl ?_
    refine cg_L_waits (pc2 := 97) hC hi_X6_fact_X6 lk_X6_fact_3 dX6_fact_94 rfl ?_
    refine jj_icmp_ge (pc2 := 100) hC 104 dX6_fact_97 (by decide) rfl (fun h5 => ?_) (fun h5 => ?_)
    · have hV := hV.1 h5
      refine jj_iconst (pc2 := 105) hC 0 dX6_fact_104 (by decide) rfl ?_
      exact jj_iret hC dX6_fact_105 ⟨hV, rfl⟩
    · have hV := hV.2 h5
      refine jj_iconst (pc2 := 101) hC 1 dX6_fact_100 (by decide) rfl ?_
      refine jj_goto hC 105 dX6_fact_101 (by decide) ?_
      exact jj_iret hC dX6_fact_105 ⟨hV, rfl⟩
theorem hi_X6_arrive_X6 : ∀ w ∈ u_ws RX6 TX6 5, w ∈ wsX6_arrive := fun _ h => List.mem_cons_of_mem _ (List.mem_append_right _ h)
theorem lk_X6_arrive_3 : Cond.fieldLink RX6 18 "PartedHouse$Letters" "waiting" "[I" ∈ wsX6_arrive := List.mem_of_getElem? (i := 3) rfl
theorem lk_X6_arrive_1 : Cond.fieldLink RX6 25 "PartedHouse$Letters" "waits" "I" ∈ wsX6_arrive := List.mem_of_getElem? (i := 1) rfl
theorem lk_X6_arrive_2 : Cond.fieldLink RX6 15 "PartedHouse$Letters" "says" "[I" ∈ wsX6_arrive := List.mem_of_getElem? (i := 2) rfl
abbrev rm_X6_arrive : Room := { frames := 1, cells := 0, slots := 0, locals := 22 }
def vc_X6_arrive_42 (Post : Int32 → cm_M → Prop) : Nat → Int32 → cm_M → Prop
  | 0, _, _ => False
  | f + 1, x4, g => (((g.2.2 41 0) ≤ x4) → (Post 1 g)) ∧ ((¬ (g.2.2 41 0) ≤ x4) → ((vp_in (x4 + 1) 40) ∧ ((vp_in x4 40) ∧ (∀ g7 : cm_M, g7 = cm_a g 39 x4 (g.2.2 39 (x4 + 1).toNatClampNeg) → (vc_X6_arrive_42 Post f (x4 + 1) g7)))))
def vc_X6_arrive (a1 : Int32) (g0 : cm_M) (Post : Int32 → cm_M → Prop) : Prop := vc_X6_placeInWaiting a1 g0 (fun (r1 : Int32) => ((r1 < (g0.2.2 41 0)) → (vc_X6_cellOf a1 g0 (fun (r3 : Int32) => (vp_in a1 (g0.1.2.1 3)) ∧ ((vp_in r3 128) ∧ (∀ g4 : cm_M, g4 = cm_a g0 26 r3 (g0.2.2 38 a1.toNatClampNeg) → (∀ g5 : cm_M, g5 = cm_s g4 41 ((g4.2.2 41 0) - 1) → (∃ n8 : Nat, vc_X6_arrive_42 Post n8 r1 g5))))))) ∧ ((¬ r1 < (g0.2.2 41 0)) → (Post 0 g0)))
set_option maxHeartbeats 4000000 in
set_option maxRecDepth 100000 in
theorem ac_X6_arrive_42 {p : Program} {l : Launch} {e : Env} {s : State} {m : MethodId} {args : Array Value} {below : List Frame} {meth : Method} {c : Code} {D : va_G} {cs : Nat → ClassId} {Y X : va_W} {ad : Nat → Nat} {g0 : cm_M} (hC : JC p s m args meth c D vwCl (va_A (wc_d Y X cs ad g0) s.heap.size) 5 cX6_arrive (some .boolean) wsX6_arrive RX6 (jt_tys cs)) (Post : Int32 → cm_M → Prop) : ∀ (f : Nat) (x4 : Int32) (g : cm_M), vc_X6_arrive_42 Post f x4 g → JJ (wc_d Y X cs ad) p l e rm_X6_arrive s m args below meth c D vwCl (va_A (wc_d Y X cs ad g0) s.heap.size) 5 0 0 (MQ below (jj_QI (wc_d Y X cs ad) D vwCl (jt_tys cs) g0 s.heap.size Post) args s 0 0 (va_A (wc_d Y X cs ad g0) s.heap.size)) 42 [(0, .ref (ad 5)), (4, .int x4)] [] g := by
  intro f
  induction f with
  | zero => intro x4 g hV; exact hV.elim
  | succ f ih =>
    intro x4 g hV
    rw [vc_X6_arrive_42] at hV
    refine jj_iload (pc2 := 44) hC dX6_arrive_42 1 rfl rfl ?_
    refine jj_aload_n (pc2 := 45) hC dX6_arrive_44 rfl 0 rfl rfl ?_
    refine cg_L_waits (pc2 := 48) hC hi_X6_arrive_X6 lk_X6_arrive_1 dX6_arrive_45 rfl ?_
    refine jj_icmp_ge (pc2 := 51) hC 73 dX6_arrive_48 (by decide) rfl (fun h6 => ?_) (fun h6 => ?_)
    · have hV := hV.1 h6
      refine jj_iconst (pc2 := 74) hC 1 dX6_arrive_73 (by decide) rfl ?_
      exact jj_zret hC jj_nb1 dX6_arrive_74 hV
    · have hV := hV.2 h6
      refine jj_aload_n (pc2 := 52) hC dX6_arrive_51 rfl 0 rfl rfl ?_
      refine cg_L_waiting (pc2 := 55) hC hi_X6_arrive_X6 lk_X6_arrive_3 dX6_arrive_52 rfl ?_
      refine jj_iload (pc2 := 57) hC dX6_arrive_55 1 rfl rfl ?_
      refine jj_aload_n (pc2 := 58) hC dX6_arrive_57 rfl 0 rfl rfl ?_
      refine cg_L_waiting (pc2 := 61) hC hi_X6_arrive_X6 lk_X6_arrive_3 dX6_arrive_58 rfl ?_
      refine jj_iload (pc2 := 63) hC dX6_arrive_61 1 rfl rfl ?_
      refine jj_iconst (pc2 := 64) hC 1 dX6_arrive_63 (by decide) rfl ?_
      refine jj_iadd (pc2 := 65) hC dX6_arrive_64 rfl ?_
      refine cl_L_waiting (pc2 := 66) hC hV.1 dX6_arrive_65 rfl ?_
      have hV := hV.2
      refine ct_L_waiting (pc2 := 67) hC hV.1 dX6_arrive_66 rfl (fun g7 eg7 => ?_)
      have hV := hV.2 g7 eg7
      refine jj_iinc (pc2 := 70) hC (x4 + 1) [(4, .int (x4 + 1)), (0, .ref (ad 5))] dX6_arrive_67 1 rfl rfl (by decide) rfl rfl ?_
      refine jj_goto hC 42 dX6_arrive_70 (by decide) ?_
      exact jj_sub (lv2 := [(0, .ref (ad 5)), (4, .int (x4 + 1))]) [1, 0] rfl (ih (x4 + 1) g7 hV)
set_option maxHeartbeats 4000000 in
set_option maxRecDepth 100000 in
theorem kc_X6_arrive (l : Launch) (D : va_G) (cs : Nat → ClassId) (Y X : va_W) (ad : Nat → Nat) (a1 : Int32) (g0 : cm_M) (Post : Int32 → cm_M → Prop) (hV : vc_X6_arrive a1 g0 Post) : JI (wc_d Y X cs ad) D vwCl (jt_tys cs) l yX6_arrive wsX6_arrive rm_X6_arrive 0 0 [.ref (ad 5), .int a1, .ref (ad 31)] g0 Post := by
  refine jj_metI (cc := cX6_arrive) (nL := 5) (ret := (some .boolean)) (by decide) rfl (Nat.le_of_ble_eq_true rfl) [(0, .ref (ad 5)), (1, .int a1), (2, .ref (ad 31))] rfl ?_
  intro p e s m args below meth c hC hnm
  rw [vc_X6_arrive] at hV
  refine jj_aload_n (pc2 := 1) hC dX6_arrive_0 rfl 0 rfl rfl ?_
  refine jj_iload_n (pc2 := 2) hC dX6_arrive_1 rfl 1 rfl rfl ?_
  refine jj_cVIp (pc2 := 5) (wd := wc_d Y X cs ad) (g := g0) (rest := []) hC (Y.length + 5) (jx_at (V := wc_W cs ad g0) rfl) rfl rfl (kc_X6_placeInWaiting l D cs Y X ad a1 g0 _ hV) (cwV 1 hC.1.2.2.2.2 gX6_arrive_X6_placeInWaiting rfl rfl rfl (by decide +kernel) ⟨by decide, by decide⟩) rfl (Nat.le_of_ble_eq_true rfl) _ rfl dX6_arrive_2 ⟨Nat.zero_le _, Nat.zero_le _⟩ rfl (fun r1 hV => ?_)
  refine jj_istore_n (pc2 := 6) hC [(3, .int r1), (0, .ref (ad 5)), (1, .int a1), (2, .ref (ad 31))] dX6_arrive_5 rfl (by decide) rfl rfl ?_
  refine jj_iload_n (pc2 := 7) hC dX6_arrive_6 rfl 0 rfl rfl ?_
  refine jj_aload_n (pc2 := 8) hC dX6_arrive_7 rfl 1 rfl rfl ?_
  refine cg_L_waits (pc2 := 11) hC hi_X6_arrive_X6 lk_X6_arrive_1 dX6_arrive_8 rfl ?_
  refine jj_icmp_lt (pc2 := 14) hC 16 dX6_arrive_11 (by decide) rfl (fun h2 => ?_) (fun h2 => ?_)
  · have hV := hV.1 h2
    refine jj_aload_n (pc2 := 17) hC dX6_arrive_16 rfl 3 rfl rfl ?_
    refine jj_aload_n (pc2 := 18) hC dX6_arrive_17 rfl 1 rfl rfl ?_
    refine jj_iload_n (pc2 := 19) hC dX6_arrive_18 rfl 2 rfl rfl ?_
    refine jj_cVIp (pc2 := 22) (wd := wc_d Y X cs ad) (g := g0) (rest := [.ref (ad 31)]) hC (Y.length + 5) (jx_at (V := wc_W cs ad g0) rfl) rfl rfl (kc_X6_cellOf l D cs Y X ad a1 g0 _ hV) (cwV 1 hC.1.2.2.2.2 gX6_arrive_X6_cellOf rfl rfl rfl (by decide +kernel) ⟨by decide, by decide⟩) rfl (Nat.le_of_ble_eq_true rfl) _ rfl dX6_arrive_19 ⟨Nat.zero_le _, Nat.zero_le _⟩ rfl (fun r3 hV => ?_)
    refine jj_aload_n (pc2 := 23) hC dX6_arrive_22 rfl 1 rfl rfl ?_
    refine cg_L_says (pc2 := 26) hC hi_X6_arrive_X6 lk_X6_arrive_2 dX6_arrive_23 rfl ?_
    refine jj_iload_n (pc2 := 27) hC dX6_arrive_26 rfl 2 rfl rfl ?_
    refine cl_L_says (pc2 := 28) hC hV.1 dX6_arrive_27 rfl ?_
    have hV := hV.2
    refine ct_H_newCells (pc2 := 29) hC hV.1 dX6_arrive_28 rfl (fun g4 eg4 => ?_)
    have hV := hV.2 g4 eg4
    refine jj_aload_n (pc2 := 30) hC dX6_arrive_29 rfl 1 rfl rfl ?_
    refine jj_dup (pc2 := 31) hC dX6_arrive_30 rfl rfl ?_
    refine cg_L_waits (pc2 := 34) hC hi_X6_arrive_X6 lk_X6_arrive_1 dX6_arrive_31 rfl ?_
    refine jj_iconst (pc2 := 35) hC 1 dX6_arrive_34 (by decide) rfl ?_
    refine jj_isub (pc2 := 36) hC dX6_arrive_35 rfl ?_
    refine cp_L_waits (pc2 := 39) hC hi_X6_arrive_X6 lk_X6_arrive_1 dX6_arrive_36 rfl (fun g5 eg5 => ?_)
    have hV := hV g5 eg5
    refine jj_iload_n (pc2 := 40) hC dX6_arrive_39 rfl 0 rfl rfl ?_
    refine jj_istore (pc2 := 42) hC [(4, .int r1), (3, .int r1), (0, .ref (ad 5)), (1, .int a1), (2, .ref (ad 31))] dX6_arrive_40 (by decide) rfl rfl ?_
    obtain ⟨n8, hV⟩ := hV
    refine jj_sub (lv2 := [(0, .ref (ad 5)), (4, .int r1)]) [2, 0] rfl (ac_X6_arrive_42 hC Post n8 r1 g5 hV)
  · have hV := hV.2 h2
    refine jj_iconst (pc2 := 15) hC 0 dX6_arrive_14 (by decide) rfl ?_
    exact jj_zret hC jj_nb0 dX6_arrive_15 hV
theorem hi_X6_arriveAll_X6 : ∀ w ∈ u_ws RX6 TX6 5, w ∈ wsX6_arriveAll := fun _ h => List.mem_cons_of_mem _ (List.mem_append_right _ h)
theorem lk_X6_arriveAll_2 : Cond.fieldLink RX6 18 "PartedHouse$Letters" "waiting" "[I" ∈ wsX6_arriveAll := List.mem_of_getElem? (i := 2) rfl
theorem lk_X6_arriveAll_3 : Cond.fieldLink RX6 15 "PartedHouse$Letters" "says" "[I" ∈ wsX6_arriveAll := List.mem_of_getElem? (i := 3) rfl
theorem lk_X6_arriveAll_1 : Cond.fieldLink RX6 25 "PartedHouse$Letters" "waits" "I" ∈ wsX6_arriveAll := List.mem_of_getElem? (i := 1) rfl
abbrev rm_X6_arriveAll : Room := { frames := 1, cells := 0, slots := 0, locals := 21 }
def vc_X6_arriveAll_7 (x2 : Int32) (K41 : cm_M → Prop) (Post : Int32 → cm_M → Prop) : Nat → Int32 → cm_M → Prop
  | 0, _, _ => False
  | f + 1, x3, g => ((x2 ≤ x3) → (K41 g)) ∧ ((¬ x2 ≤ x3) → ((vp_in x3 40) ∧ (vc_X6_cellOf (g.2.2 39 x3.toNatClampNeg) g (fun (r3 : Int32) => (vp_in x3 40) ∧ ((vp_in (g.2.2 39 x3.toNatClampNeg) (g.1.2.1 3)) ∧ ((vp_in r3 128) ∧ (∀ g4 : cm_M, g4 = cm_a g 26 r3 (g.2.2 38 (g.2.2 39 x3.toNatClampNeg).toNatClampNeg) → (vc_X6_arriveAll_7 x2 K41 Post f (x3 + 1) g4))))))))
def vc_X6_arriveAll (g0 : cm_M) (Post : Int32 → cm_M → Prop) : Prop := ∀ y1 : Int32, y1 = g0.2.2 41 0 → (∃ n7 : Nat, vc_X6_arriveAll_7 y1 (fun (g5 : cm_M) => ∀ g6 : cm_M, g6 = cm_s g5 41 0 → (Post y1 g6)) Post n7 0 g0)
set_option maxHeartbeats 4000000 in
set_option maxRecDepth 100000 in
theorem ac_X6_arriveAll_7 {p : Program} {l : Launch} {e : Env} {s : State} {m : MethodId} {args : Array Value} {below : List Frame} {meth : Method} {c : Code} {D : va_G} {cs : Nat → ClassId} {Y X : va_W} {ad : Nat → Nat} {g0 : cm_M} (hC : JC p s m args meth c D vwCl (va_A (wc_d Y X cs ad g0) s.heap.size) 4 cX6_arriveAll (some .int) wsX6_arriveAll RX6 (jt_tys cs)) (x2 : Int32) (Post : Int32 → cm_M → Prop) (K41 : cm_M → Prop) (hK41 : ∀ (g : cm_M) , K41 g → JJ (wc_d Y X cs ad) p l e rm_X6_arriveAll s m args below meth c D vwCl (va_A (wc_d Y X cs ad g0) s.heap.size) 4 0 0 (MQ below (jj_QI (wc_d Y X cs ad) D vwCl (jt_tys cs) g0 s.heap.size Post) args s 0 0 (va_A (wc_d Y X cs ad g0) s.heap.size)) 41 [(0, .ref (ad 5)), (2, .int x2)] [] g) : ∀ (f : Nat) (x3 : Int32) (g : cm_M), vc_X6_arriveAll_7 x2 K41 Post f x3 g → JJ (wc_d Y X cs ad) p l e rm_X6_arriveAll s m args below meth c D vwCl (va_A (wc_d Y X cs ad g0) s.heap.size) 4 0 0 (MQ below (jj_QI (wc_d Y X cs ad) D vwCl (jt_tys cs) g0 s.heap.size Post) args s 0 0 (va_A (wc_d Y X cs ad g0) s.heap.size)) 7 [(0, .ref (ad 5)), (1, .ref (ad 31)), (2, .int x2), (3, .int x3)] [] g := by
  intro f
  induction f with
  | zero => intro x3 g hV; exact hV.elim
  | succ f ih =>
    intro x3 g hV
    rw [vc_X6_arriveAll_7] at hV
    refine jj_iload_n (pc2 := 8) hC dX6_arriveAll_7 rfl 3 rfl rfl ?_
    refine jj_iload_n (pc2 := 9) hC dX6_arriveAll_8 rfl 2 rfl rfl ?_
    refine jj_icmp_ge (pc2 := 12) hC 41 dX6_arriveAll_9 (by decide) rfl (fun h2 => ?_) (fun h2 => ?_)
    · have hV := hV.1 h2
      exact jj_sub (lv2 := [(0, .ref (ad 5)), (2, .int x2)]) [0, 2] rfl (hK41 g hV)
    · have hV := hV.2 h2
      refine jj_aload_n (pc2 := 13) hC dX6_arriveAll_12 rfl 1 rfl rfl ?_
      refine jj_aload_n (pc2 := 14) hC dX6_arriveAll_13 rfl 0 rfl rfl ?_
      refine jj_aload_n (pc2 := 15) hC dX6_arriveAll_14 rfl 0 rfl rfl ?_
      refine cg_L_waiting (pc2 := 18) hC hi_X6_arriveAll_X6 lk_X6_arriveAll_2 dX6_arriveAll_15 rfl ?_
      refine jj_iload_n (pc2 := 19) hC dX6_arriveAll_18 rfl 3 rfl rfl ?_
      refine cl_L_waiting (pc2 := 20) hC hV.1 dX6_arriveAll_19 rfl ?_
      have hV := hV.2
      refine jj_cVIp (pc2 := 23) (wd := wc_d Y X cs ad) (g := g) (rest := [.ref (ad 31)]) hC (Y.length + 5) (jx_at (V := wc_W cs ad g) rfl) rfl rfl (kc_X6_cellOf l D cs Y X ad (g.2.2 39 x3.toNatClampNeg) g _ hV) (cwV 1 hC.1.2.2.2.2 gX6_arriveAll_X6_cellOf rfl rfl rfl (by decide +kernel) ⟨by decide, by decide⟩) rfl (Nat.le_of_ble_eq_true rfl) _ rfl dX6_arriveAll_20 ⟨Nat.zero_le _, Nat.zero_le _⟩ rfl (fun r3 hV => ?_)
      refine jj_aload_n (pc2 := 24) hC dX6_arriveAll_23 rfl 0 rfl rfl ?_
      refine cg_L_says (pc2 := 27) hC hi_X6_arriveAll_X6 lk_X6_arriveAll_3 dX6_arriveAll_24 rfl ?_
      refine jj_aload_n (pc2 := 28) hC dX6_arriveAll_27 rfl 0 rfl rfl ?_
      refine cg_L_waiting (pc2 := 31) hC hi_X6_arriveAll_X6 lk_X6_arriveAll_2 dX6_arriveAll_28 rfl ?_
      refine jj_iload_n (pc2 := 32) hC dX6_arriveAll_31 rfl 3 rfl rfl ?_
      refine cl_L_waiting (pc2 := 33) hC hV.1 dX6_arriveAll_32 rfl ?_
      have hV := hV.2
      refine cl_L_says (pc2 := 34) hC hV.1 dX6_arriveAll_33 rfl ?_
      have hV := hV.2
      refine ct_H_newCells (pc2 := 35) hC hV.1 dX6_arriveAll_34 rfl (fun g4 eg4 => ?_)
      have hV := hV.2 g4 eg4
      refine jj_iinc (pc2 := 38) hC (x3 + 1) [(3, .int (x3 + 1)), (0, .ref (ad 5)), (1, .ref (ad 31)), (2, .int x2)] dX6_arriveAll_35 3 rfl rfl (by decide) rfl rfl ?_
      refine jj_goto hC 7 dX6_arriveAll_38 (by decide) ?_
      exact jj_sub (lv2 := [(0, .ref (ad 5)), (1, .ref (ad 31)), (2, .int x2), (3, .int (x3 + 1))]) [1, 2, 3, 0] rfl (ih (x3 + 1) g4 hV)
set_option maxHeartbeats 4000000 in
set_option maxRecDepth 100000 in
theorem kc_X6_arriveAll (l : Launch) (D : va_G) (cs : Nat → ClassId) (Y X : va_W) (ad : Nat → Nat) (g0 : cm_M) (Post : Int32 → cm_M → Prop) (hV : vc_X6_arriveAll g0 Post) : JI (wc_d Y X cs ad) D vwCl (jt_tys cs) l yX6_arriveAll wsX6_arriveAll rm_X6_arriveAll 0 0 [.ref (ad 5), .ref (ad 31)] g0 Post := by
  refine jj_metI (cc := cX6_arriveAll) (nL := 4) (ret := (some .int)) (by decide) rfl (Nat.le_of_ble_eq_true rfl) [(0, .ref (ad 5)), (1, .ref (ad 31))] rfl ?_
  intro p e s m args below meth c hC hnm
  rw [vc_X6_arriveAll] at hV
  refine jj_aload_n (pc2 := 1) hC dX6_arriveAll_0 rfl 0 rfl rfl ?_
  refine cg_L_waits (pc2 := 4) hC hi_X6_arriveAll_X6 lk_X6_arriveAll_1 dX6_arriveAll_1 rfl ?_
  refine jj_topi (fun y1 ey1 => ?_)
  have hV := hV y1 ey1
  refine jj_istore_n (pc2 := 5) hC [(2, .int y1), (0, .ref (ad 5)), (1, .ref (ad 31))] dX6_arriveAll_4 rfl (by decide) rfl rfl ?_
  refine jj_iconst (pc2 := 6) hC 0 dX6_arriveAll_5 (by decide) rfl ?_
  refine jj_istore_n (pc2 := 7) hC [(3, .int 0), (2, .int y1), (0, .ref (ad 5)), (1, .ref (ad 31))] dX6_arriveAll_6 rfl (by decide) rfl rfl ?_
  obtain ⟨n7, hV⟩ := hV
  refine jj_sub (lv2 := [(0, .ref (ad 5)), (1, .ref (ad 31)), (2, .int y1), (3, .int 0)]) [2, 3, 1, 0] rfl (ac_X6_arriveAll_7 hC y1 Post _ (fun g5 hV => ?_) n7 0 g0 hV)
  refine jj_aload_n (pc2 := 42) hC dX6_arriveAll_41 rfl 0 rfl rfl ?_
  refine jj_iconst (pc2 := 43) hC 0 dX6_arriveAll_42 (by decide) rfl ?_
  refine cp_L_waits (pc2 := 46) hC hi_X6_arriveAll_X6 lk_X6_arriveAll_1 dX6_arriveAll_43 rfl (fun g6 eg6 => ?_)
  have hV := hV g6 eg6
  refine jj_iload_n (pc2 := 47) hC dX6_arriveAll_46 rfl 1 rfl rfl ?_
  exact jj_iret hC dX6_arriveAll_47 hV
abbrev rm_J7_fill_d0a16 : Room := { frames := 0, cells := 0, slots := 0, locals := 0 }
def vc_J7_fill_d0a16_6 (x1 : Int64) (x4 : Int32) (Post : cm_M → Prop) : Nat → Int32 → cm_M → Prop
  | 0, _, _ => False
  | f + 1, x3, g => ((x4 ≤ x3) → (Post g)) ∧ ((¬ x4 ≤ x3) → ((vp_in x3 100) ∧ (∀ g3 : cm_M, g3 = cm_la g 0 x3 x1 → (vc_J7_fill_d0a16_6 x1 x4 Post f (x3 + 1) g3))))
def vc_J7_fill_d0a16 (a1 : Int64) (g0 : cm_M) (Post : cm_M → Prop) : Prop := ∀ y1 : Int32, y1 = Int32.ofNat 100 → (∃ n4 : Nat, vc_J7_fill_d0a16_6 a1 y1 Post n4 0 g0)
set_option maxHeartbeats 4000000 in
set_option maxRecDepth 100000 in
theorem ac_J7_fill_d0a16_6 {p : Program} {l : Launch} {e : Env} {s : State} {m : MethodId} {args : Array Value} {below : List Frame} {meth : Method} {c : Code} {D : va_G} {cs : Nat → ClassId} {Y X : va_W} {ad : Nat → Nat} {g0 : cm_M} (hC : JC p s m args meth c D vwCl (va_A (wc_d Y X cs ad g0) s.heap.size) 5 cJ7_fill_d0a16 none wsJ7_fill_d0a16 RJ7 (jt_tys cs)) (x1 : Int64) (x4 : Int32) (Post : cm_M → Prop) : ∀ (f : Nat) (x3 : Int32) (g : cm_M), vc_J7_fill_d0a16_6 x1 x4 Post f x3 g → JJ (wc_d Y X cs ad) p l e rm_J7_fill_d0a16 s m args below meth c D vwCl (va_A (wc_d Y X cs ad g0) s.heap.size) 5 0 0 (MQ below (jj_QV (wc_d Y X cs ad) D vwCl (jt_tys cs) g0 s.heap.size Post) args s 0 0 (va_A (wc_d Y X cs ad g0) s.heap.size)) 6 [(0, .ref (ad 40)), (1, .long x1), (3, .int x3), (4, .int x4)] [] g := by
  intro f
  induction f with
  | zero => intro x3 g hV; exact hV.elim
  | succ f ih =>
    intro x3 g hV
    rw [vc_J7_fill_d0a16_6] at hV
    refine jj_iload_n (pc2 := 7) hC dJ7_fill_d0a16_6 rfl 2 rfl rfl ?_
    refine jj_iload (pc2 := 9) hC dJ7_fill_d0a16_7 3 rfl rfl ?_
    refine jj_icmp_ge (pc2 := 12) hC 22 dJ7_fill_d0a16_9 (by decide) rfl (fun h2 => ?_) (fun h2 => ?_)
    · have hV := hV.1 h2
      exact jj_vret hC dJ7_fill_d0a16_22 hV
    · have hV := hV.2 h2
      refine jj_aload_n (pc2 := 13) hC dJ7_fill_d0a16_12 rfl 0 rfl rfl ?_
      refine jj_iload_n (pc2 := 14) hC dJ7_fill_d0a16_13 rfl 2 rfl rfl ?_
      refine jj_lload_n (pc2 := 15) hC dJ7_fill_d0a16_14 rfl 1 rfl rfl ?_
      refine ct_P_pairs (pc2 := 16) hC hV.1 dJ7_fill_d0a16_15 rfl (fun g3 eg3 => ?_)
      have hV := hV.2 g3 eg3
      refine jj_iinc (pc2 := 19) hC (x3 + 1) [(3, .int (x3 + 1)), (0, .ref (ad 40)), (1, .long x1), (4, .int x4)] dJ7_fill_d0a16_16 2 rfl rfl (by decide) rfl rfl ?_
      refine jj_goto hC 6 dJ7_fill_d0a16_19 (by decide) ?_
      exact jj_sub (lv2 := [(0, .ref (ad 40)), (1, .long x1), (3, .int (x3 + 1)), (4, .int x4)]) [1, 2, 0, 3] rfl (ih (x3 + 1) g3 hV)
set_option maxHeartbeats 4000000 in
set_option maxRecDepth 100000 in
theorem kc_J7_fill_d0a16 (l : Launch) (D : va_G) (cs : Nat → ClassId) (Y X : va_W) (ad : Nat → Nat) (a1 : Int64) (g0 : cm_M) (Post : cm_M → Prop) (hV : vc_J7_fill_d0a16 a1 g0 Post) : JV (wc_d Y X cs ad) D vwCl (jt_tys cs) l yJ7_fill_d0a16 wsJ7_fill_d0a16 rm_J7_fill_d0a16 0 0 [.ref (ad 40), .long a1] g0 Post := by
  refine jj_metV (cc := cJ7_fill_d0a16) (nL := 5) (ret := none) (by decide) rfl (Nat.le_of_ble_eq_true rfl) [(0, .ref (ad 40)), (1, .long a1)] rfl ?_
  intro p e s m args below meth c hC hnm
  rw [vc_J7_fill_d0a16] at hV
  refine jj_iconst (pc2 := 1) hC 0 dJ7_fill_d0a16_0 (by decide) rfl ?_
  refine jj_istore_n (pc2 := 2) hC [(3, .int 0), (0, .ref (ad 40)), (1, .long a1)] dJ7_fill_d0a16_1 rfl (by decide) rfl rfl ?_
  refine jj_aload_n (pc2 := 3) hC dJ7_fill_d0a16_2 rfl 1 rfl rfl ?_
  refine jj_alen (pc2 := 4) (wd := wc_d Y X cs ad) (g := g0) hC (Y.length + 40) 1 (jx_at (V := wc_W cs ad g0) rfl) rfl dJ7_fill_d0a16_3 rfl ?_
  refine jj_topi (fun y1 ey1 => ?_)
  have hV := hV y1 ey1
  refine jj_istore (pc2 := 6) hC [(4, .int y1), (3, .int 0), (0, .ref (ad 40)), (1, .long a1)] dJ7_fill_d0a16_4 (by decide) rfl rfl ?_
  obtain ⟨n4, hV⟩ := hV
  refine jj_sub (lv2 := [(0, .ref (ad 40)), (1, .long a1), (3, .int 0), (4, .int y1)]) [2, 3, 1, 0] rfl (ac_J7_fill_d0a16_6 hC a1 y1 Post n4 0 g0 hV)
theorem hi_X7_addToPair_X7 : ∀ w ∈ u_ws RX7 TX7 5, w ∈ wsX7_addToPair := fun _ h => List.mem_cons_of_mem _ (List.mem_append_right _ h)
theorem lk_X7_addToPair_1 : Cond.fieldLink RX7 9 "PartedHouse$Prices" "pairs" "[J" ∈ wsX7_addToPair := List.mem_of_getElem? (i := 1) rfl
abbrev rm_X7_addToPair : Room := { frames := 0, cells := 0, slots := 0, locals := 0 }
def vc_X7_addToPair (a1 : Int32) (a2 : Int32) (a3 : Int64) (g0 : cm_M) (Post : cm_M → Prop) : Prop := ((a1 = a2) → (Post g0)) ∧ ((¬ a1 = a2) → ((vp_in ((a1 * 10) + a2) 100) ∧ ((vp_in ((a1 * 10) + a2) 100) ∧ (∀ g2 : cm_M, g2 = cm_la g0 0 ((a1 * 10) + a2) ((g0.2.1 0 ((a1 * 10) + a2).toNatClampNeg) + a3) → ((vp_in ((a2 * 10) + a1) 100) ∧ ((vp_in ((a2 * 10) + a1) 100) ∧ (∀ g3 : cm_M, g3 = cm_la g2 0 ((a2 * 10) + a1) ((g2.2.1 0 ((a2 * 10) + a1).toNatClampNeg) + a3) → (Post g3))))))))
set_option maxHeartbeats 4000000 in
set_option maxRecDepth 100000 in
theorem kc_X7_addToPair (l : Launch) (D : va_G) (cs : Nat → ClassId) (Y X : va_W) (ad : Nat → Nat) (a1 : Int32) (a2 : Int32) (a3 : Int64) (g0 : cm_M) (Post : cm_M → Prop) (hV : vc_X7_addToPair a1 a2 a3 g0 Post) : JV (wc_d Y X cs ad) D vwCl (jt_tys cs) l yX7_addToPair wsX7_addToPair rm_X7_addToPair 0 0 [.ref (ad 6), .int a1, .int a2, .long a3] g0 Post := by
  refine jj_metV (cc := cX7_addToPair) (nL := 5) (ret := none) (by decide) rfl (Nat.le_of_ble_eq_true rfl) [(0, .ref (ad 6)), (1, .int a1), (2, .int a2), (3, .long a3)] rfl ?_
  intro p e s m args below meth c hC hnm
  rw [vc_X7_addToPair] at hV
  refine jj_iload_n (pc2 := 1) hC dX7_addToPair_0 rfl 1 rfl rfl ?_
  refine jj_iload_n (pc2 := 2) hC dX7_addToPair_1 rfl 2 rfl rfl ?_
  refine jj_icmp_eq (pc2 := 5) hC 35 dX7_addToPair_2 (by decide) rfl (fun h1 => ?_) (fun h1 => ?_)
  · have hV := hV.1 h1
    exact jj_vret hC dX7_addToPair_35 hV
  · have hV := hV.2 h1
    refine jj_aload_n (pc2 := 6) hC dX7_addToPair_5 rfl 0 rfl rfl ?_
    refine cg_P_pairs (pc2 := 9) hC hi_X7_addToPair_X7 lk_X7_addToPair_1 dX7_addToPair_6 rfl ?_
    refine jj_iload_n (pc2 := 10) hC dX7_addToPair_9 rfl 1 rfl rfl ?_
    refine jj_bipush (pc2 := 12) hC 10 dX7_addToPair_10 (by decide) rfl ?_
    refine jj_imul (pc2 := 13) hC dX7_addToPair_12 rfl ?_
    refine jj_iload_n (pc2 := 14) hC dX7_addToPair_13 rfl 2 rfl rfl ?_
    refine jj_iadd (pc2 := 15) hC dX7_addToPair_14 rfl ?_
    refine jj_dup2 (pc2 := 16) hC dX7_addToPair_15 rfl rfl rfl ?_
    refine cl_P_pairs (pc2 := 17) hC hV.1 dX7_addToPair_16 rfl ?_
    have hV := hV.2
    refine jj_lload_n (pc2 := 18) hC dX7_addToPair_17 rfl 3 rfl rfl ?_
    refine jj_ladd (pc2 := 19) hC dX7_addToPair_18 rfl ?_
    refine ct_P_pairs (pc2 := 20) hC hV.1 dX7_addToPair_19 rfl (fun g2 eg2 => ?_)
    have hV := hV.2 g2 eg2
    refine jj_aload_n (pc2 := 21) hC dX7_addToPair_20 rfl 0 rfl rfl ?_
    refine cg_P_pairs (pc2 := 24) hC hi_X7_addToPair_X7 lk_X7_addToPair_1 dX7_addToPair_21 rfl ?_
    refine jj_iload_n (pc2 := 25) hC dX7_addToPair_24 rfl 2 rfl rfl ?_
    refine jj_bipush (pc2 := 27) hC 10 dX7_addToPair_25 (by decide) rfl ?_
    refine jj_imul (pc2 := 28) hC dX7_addToPair_27 rfl ?_
    refine jj_iload_n (pc2 := 29) hC dX7_addToPair_28 rfl 1 rfl rfl ?_
    refine jj_iadd (pc2 := 30) hC dX7_addToPair_29 rfl ?_
    refine jj_dup2 (pc2 := 31) hC dX7_addToPair_30 rfl rfl rfl ?_
    refine cl_P_pairs (pc2 := 32) hC hV.1 dX7_addToPair_31 rfl ?_
    have hV := hV.2
    refine jj_lload_n (pc2 := 33) hC dX7_addToPair_32 rfl 3 rfl rfl ?_
    refine jj_ladd (pc2 := 34) hC dX7_addToPair_33 rfl ?_
    refine ct_P_pairs (pc2 := 35) hC hV.1 dX7_addToPair_34 rfl (fun g3 eg3 => ?_)
    have hV := hV.2 g3 eg3
    exact jj_vret hC dX7_addToPair_35 hV
theorem lk_X7_prepare_13 : Cond.initialized RX10 ∈ wsX7_prepare := List.mem_of_getElem? (i := 13) rfl
theorem lk_X7_prepare_12 : Cond.static yX10_tiePlace ∈ wsX7_prepare := List.mem_of_getElem? (i := 12) rfl
theorem hi_X7_prepare_X7 : ∀ w ∈ u_ws RX7 TX7 5, w ∈ wsX7_prepare := fun _ h => List.mem_cons_of_mem _ (List.mem_append_left _ (List.mem_append_right _ h))
theorem lk_X7_prepare_5 : Cond.fieldLink RX7 25 "PartedHouse$Prices" "counts" "[I" ∈ wsX7_prepare := List.mem_of_getElem? (i := 5) rfl
theorem hi_X7_prepare_X9 : ∀ w ∈ u_ws RX9 TX9 11, w ∈ wsX7_prepare := fun _ h => List.mem_cons_of_mem _ (List.mem_append_right _ h)
theorem lk_X7_prepare_4 : Cond.fieldLink RX7 41 "PartedHouse$Text" "modules" "I" ∈ wsX7_prepare := List.mem_of_getElem? (i := 4) rfl
theorem lk_X7_prepare_3 : Cond.fieldLink RX7 15 "PartedHouse$Prices" "text" "LPartedHouse$Text;" ∈ wsX7_prepare := List.mem_of_getElem? (i := 3) rfl
theorem lk_X7_prepare_7 : Cond.fieldLink RX7 58 "PartedHouse$Text" "homes" "[I" ∈ wsX7_prepare := List.mem_of_getElem? (i := 7) rfl
theorem lk_X7_prepare_6 : Cond.fieldLink RX7 55 "PartedHouse$Text" "tables" "I" ∈ wsX7_prepare := List.mem_of_getElem? (i := 6) rfl
theorem lk_X7_prepare_2 : Cond.fieldLink RX7 9 "PartedHouse$Prices" "pairs" "[J" ∈ wsX7_prepare := List.mem_of_getElem? (i := 2) rfl
theorem lk_X7_prepare_1 : Cond.fieldLink RX7 31 "PartedHouse$Prices" "wholeWeight" "J" ∈ wsX7_prepare := List.mem_of_getElem? (i := 1) rfl
abbrev rm_X7_prepare : Room := { frames := 1, cells := 0, slots := 0, locals := 24 }
def vc_X7_prepare_31 (x2 : Int32) (K71 : cm_M → Prop) (Post : cm_M → Prop) : Nat → Int32 → cm_M → Prop
  | 0, _, _ => False
  | f + 1, x3, g => (((g.2.2 12 0) ≤ x3) → (K71 g)) ∧ ((¬ (g.2.2 12 0) ≤ x3) → (vc_X10_tiePlace 0 x2 x3 g (fun (r6 : Int32) => (vp_in r6 420) ∧ (vc_X7_addToPair x2 x3 (((g.2.2 28 r6.toNatClampNeg).toInt64) * ((g.2.2 2 (0 : Int32).toNatClampNeg).toInt64)) g (fun (g8 : cm_M) => vc_X7_prepare_31 x2 K71 Post f (x3 + 1) g8)))))
def vc_X7_prepare_73 (x2 : Int32) (K147 : cm_M → Prop) (Post : cm_M → Prop) : Nat → Int32 → cm_M → Prop
  | 0, _, _ => False
  | f + 1, x3, g => (((g.2.2 13 0) ≤ x3) → (K147 g)) ∧ ((¬ (g.2.2 13 0) ≤ x3) → (vc_X10_tiePlace 1 x2 x3 g (fun (r11 : Int32) => (vp_in r11 420) ∧ (∀ y12 : Int64, y12 = ((g.2.2 28 r11.toNatClampNeg).toInt64) * ((g.2.2 2 (1 : Int32).toNatClampNeg).toInt64) → (vc_X10_tiePlace 2 x2 x3 g (fun (r13 : Int32) => (vp_in r13 420) ∧ (∀ y14 : Int64, y14 = ((g.2.2 28 r13.toNatClampNeg).toInt64) * ((g.2.2 2 (2 : Int32).toNatClampNeg).toInt64) → ((vp_in x3 16) ∧ (vc_X7_addToPair x2 (g.2.2 5 x3.toNatClampNeg) (y12 + y14) g (fun (g16 : cm_M) => vc_X7_prepare_73 x2 K147 Post f (x3 + 1) g16))))))))))
def vc_X7_prepare_18 (Post : cm_M → Prop) : Nat → Int32 → cm_M → Prop
  | 0, _, _ => False
  | f + 1, x2, g => (((g.2.2 12 0) ≤ x2) → (Post g)) ∧ ((¬ (g.2.2 12 0) ≤ x2) → (∃ n19 : Nat, vc_X7_prepare_31 x2 (fun (g9 : cm_M) => ∃ n18 : Nat, vc_X7_prepare_73 x2 (fun (g17 : cm_M) => vc_X7_prepare_18 Post f (x2 + 1) g17) Post n18 0 g9) Post n19 0 g))
def vc_X7_prepare (g0 : cm_M) (Post : cm_M → Prop) : Prop := ∀ g1 : cm_M, g1 = cm_ls g0 1 ((g0.2.2 2 (3 : Int32).toNatClampNeg).toInt64) → (vc_J7_fill_d0a16 0 g1 (fun (g3 : cm_M) => ∃ n20 : Nat, vc_X7_prepare_18 Post n20 0 g3))
set_option maxHeartbeats 4000000 in
set_option maxRecDepth 100000 in
theorem ac_X7_prepare_31 {p : Program} {l : Launch} {e : Env} {s : State} {m : MethodId} {args : Array Value} {below : List Frame} {meth : Method} {c : Code} {D : va_G} {cs : Nat → ClassId} {Y X : va_W} {ad : Nat → Nat} {g0 : cm_M} (hC : JC p s m args meth c D vwCl (va_A (wc_d Y X cs ad g0) s.heap.size) 8 cX7_prepare none wsX7_prepare RX7 (jt_tys cs)) (x2 : Int32) (Post : cm_M → Prop) (K71 : cm_M → Prop) (hK71 : ∀ (g : cm_M) , K71 g → JJ (wc_d Y X cs ad) p l e rm_X7_prepare s m args below meth c D vwCl (va_A (wc_d Y X cs ad g0) s.heap.size) 8 0 0 (MQ below (jj_QV (wc_d Y X cs ad) D vwCl (jt_tys cs) g0 s.heap.size Post) args s 0 0 (va_A (wc_d Y X cs ad g0) s.heap.size)) 71 [(0, .ref (ad 6)), (1, .ref (ad 14)), (2, .int x2)] [] g) : ∀ (f : Nat) (x3 : Int32) (g : cm_M), vc_X7_prepare_31 x2 K71 Post f x3 g → JJ (wc_d Y X cs ad) p l e rm_X7_prepare s m args below meth c D vwCl (va_A (wc_d Y X cs ad g0) s.heap.size) 8 0 0 (MQ below (jj_QV (wc_d Y X cs ad) D vwCl (jt_tys cs) g0 s.heap.size Post) args s 0 0 (va_A (wc_d Y X cs ad g0) s.heap.size)) 31 [(0, .ref (ad 6)), (1, .ref (ad 14)), (2, .int x2), (3, .int x3)] [] g := by
  intro f
  induction f with
  | zero => intro x3 g hV; exact hV.elim
  | succ f ih =>
    intro x3 g hV
    rw [vc_X7_prepare_31] at hV
    refine jj_iload_n (pc2 := 32) hC dX7_prepare_31 rfl 3 rfl rfl ?_
    refine jj_aload_n (pc2 := 33) hC dX7_prepare_32 rfl 0 rfl rfl ?_
    refine cg_P_text (pc2 := 36) hC hi_X7_prepare_X7 lk_X7_prepare_3 dX7_prepare_33 rfl ?_
    refine cg_T_modules (pc2 := 39) hC hi_X7_prepare_X9 lk_X7_prepare_4 dX7_prepare_36 rfl ?_
    refine jj_icmp_ge (pc2 := 42) hC 71 dX7_prepare_39 (by decide) rfl (fun h5 => ?_) (fun h5 => ?_)
    · have hV := hV.1 h5
      exact jj_sub (lv2 := [(0, .ref (ad 6)), (1, .ref (ad 14)), (2, .int x2)]) [0, 1, 2] rfl (hK71 g hV)
    · have hV := hV.2 h5
      refine jj_aload_n (pc2 := 43) hC dX7_prepare_42 rfl 0 rfl rfl ?_
      refine jj_iload_n (pc2 := 44) hC dX7_prepare_43 rfl 2 rfl rfl ?_
      refine jj_iload_n (pc2 := 45) hC dX7_prepare_44 rfl 3 rfl rfl ?_
      refine jj_aload_n (pc2 := 46) hC dX7_prepare_45 rfl 0 rfl rfl ?_
      refine cg_P_counts (pc2 := 49) hC hi_X7_prepare_X7 lk_X7_prepare_5 dX7_prepare_46 rfl ?_
      refine jj_iconst (pc2 := 50) hC 0 dX7_prepare_49 (by decide) rfl ?_
      refine jj_iload_n (pc2 := 51) hC dX7_prepare_50 rfl 2 rfl rfl ?_
      refine jj_iload_n (pc2 := 52) hC dX7_prepare_51 rfl 3 rfl rfl ?_
      refine jj_cSIpN (pc2 := 55) (wd := wc_d Y X cs ad) (g := g) (rest := [.ref (ad 33), .int x3, .int x2, .ref (ad 6)]) hC (kc_X10_tiePlace l D cs Y X ad 0 x2 x3 g _ hV) ⟨va_cnB (host := "PartedHouse") 3 hC.1.2.2.2.2 gX7_prepare_X10_tiePlace_n47 rfl rfl rfl (hC.2.1.2.1 _ (List.mem_of_getElem? (i := 9) rfl)) (hC.1.2.2.2.2 _ lk_X7_prepare_13) (by decide +kernel) ⟨by decide, by decide⟩, hC.1.2.2.2.2 _ lk_X7_prepare_12, trivial⟩ rfl (Nat.le_of_ble_eq_true rfl) _ rfl dX7_prepare_52 ⟨Nat.zero_le _, Nat.zero_le _⟩ rfl (fun r6 hV => ?_)
      refine cl_H_counts (pc2 := 56) hC hV.1 dX7_prepare_55 rfl ?_
      have hV := hV.2
      refine jj_i2l (pc2 := 57) hC dX7_prepare_56 rfl ?_
      refine jj_aload_n (pc2 := 58) hC dX7_prepare_57 rfl 1 rfl rfl ?_
      refine jj_iconst (pc2 := 59) hC 0 dX7_prepare_58 (by decide) rfl ?_
      refine cl_M_weights (pc2 := 60) hC (jx_lit (by decide) (by decide)) dX7_prepare_59 rfl ?_
      refine jj_i2l (pc2 := 61) hC dX7_prepare_60 rfl ?_
      refine jj_lmul (pc2 := 62) hC dX7_prepare_61 rfl ?_
      refine jj_cVV (pc2 := 65) (wd := wc_d Y X cs ad) (g := g) (rest := []) hC (Y.length + 6) (jx_at (V := wc_W cs ad g) rfl) rfl rfl (kc_X7_addToPair l D cs Y X ad x2 x3 (((g.2.2 28 r6.toNatClampNeg).toInt64) * ((g.2.2 2 (0 : Int32).toNatClampNeg).toInt64)) g _ hV) (cwV 3 hC.1.2.2.2.2 gX7_prepare_X7_addToPair rfl rfl rfl (by decide +kernel) ⟨by decide, by decide⟩) rfl (Nat.le_of_ble_eq_true rfl) _ rfl dX7_prepare_62 ⟨Nat.zero_le _, Nat.zero_le _⟩ rfl (fun g8 hV => ?_)
      refine jj_iinc (pc2 := 68) hC (x3 + 1) [(3, .int (x3 + 1)), (0, .ref (ad 6)), (1, .ref (ad 14)), (2, .int x2)] dX7_prepare_65 3 rfl rfl (by decide) rfl rfl ?_
      refine jj_goto hC 31 dX7_prepare_68 (by decide) ?_
      exact jj_sub (lv2 := [(0, .ref (ad 6)), (1, .ref (ad 14)), (2, .int x2), (3, .int (x3 + 1))]) [1, 2, 3, 0] rfl (ih (x3 + 1) g8 hV)
set_option maxHeartbeats 4000000 in
set_option maxRecDepth 100000 in
theorem ac_X7_prepare_73 {p : Program} {l : Launch} {e : Env} {s : State} {m : MethodId} {args : Array Value} {below : List Frame} {meth : Method} {c : Code} {D : va_G} {cs : Nat → ClassId} {Y X : va_W} {ad : Nat → Nat} {g0 : cm_M} (hC : JC p s m args meth c D vwCl (va_A (wc_d Y X cs ad g0) s.heap.size) 8 cX7_prepare none wsX7_prepare RX7 (jt_tys cs)) (x2 : Int32) (Post : cm_M → Prop) (K147 : cm_M → Prop) (hK147 : ∀ (g : cm_M) , K147 g → JJ (wc_d Y X cs ad) p l e rm_X7_prepare s m args below meth c D vwCl (va_A (wc_d Y X cs ad g0) s.heap.size) 8 0 0 (MQ below (jj_QV (wc_d Y X cs ad) D vwCl (jt_tys cs) g0 s.heap.size Post) args s 0 0 (va_A (wc_d Y X cs ad g0) s.heap.size)) 147 [(0, .ref (ad 6)), (1, .ref (ad 14)), (2, .int x2)] [] g) : ∀ (f : Nat) (x3 : Int32) (g : cm_M), vc_X7_prepare_73 x2 K147 Post f x3 g → JJ (wc_d Y X cs ad) p l e rm_X7_prepare s m args below meth c D vwCl (va_A (wc_d Y X cs ad g0) s.heap.size) 8 0 0 (MQ below (jj_QV (wc_d Y X cs ad) D vwCl (jt_tys cs) g0 s.heap.size Post) args s 0 0 (va_A (wc_d Y X cs ad g0) s.heap.size)) 73 [(0, .ref (ad 6)), (1, .ref (ad 14)), (2, .int x2), (3, .int x3)] [] g := by
  intro f
  induction f with
  | zero => intro x3 g hV; exact hV.elim
  | succ f ih =>
    intro x3 g hV
    rw [vc_X7_prepare_73] at hV
    refine jj_iload_n (pc2 := 74) hC dX7_prepare_73 rfl 3 rfl rfl ?_
    refine jj_aload_n (pc2 := 75) hC dX7_prepare_74 rfl 0 rfl rfl ?_
    refine cg_P_text (pc2 := 78) hC hi_X7_prepare_X7 lk_X7_prepare_3 dX7_prepare_75 rfl ?_
    refine cg_T_tables (pc2 := 81) hC hi_X7_prepare_X9 lk_X7_prepare_6 dX7_prepare_78 rfl ?_
    refine jj_icmp_ge (pc2 := 84) hC 147 dX7_prepare_81 (by decide) rfl (fun h10 => ?_) (fun h10 => ?_)
    · have hV := hV.1 h10
      exact jj_sub (lv2 := [(0, .ref (ad 6)), (1, .ref (ad 14)), (2, .int x2)]) [0, 1, 2] rfl (hK147 g hV)
    · have hV := hV.2 h10
      refine jj_aload_n (pc2 := 85) hC dX7_prepare_84 rfl 0 rfl rfl ?_
      refine cg_P_counts (pc2 := 88) hC hi_X7_prepare_X7 lk_X7_prepare_5 dX7_prepare_85 rfl ?_
      refine jj_iconst (pc2 := 89) hC 1 dX7_prepare_88 (by decide) rfl ?_
      refine jj_iload_n (pc2 := 90) hC dX7_prepare_89 rfl 2 rfl rfl ?_
      refine jj_iload_n (pc2 := 91) hC dX7_prepare_90 rfl 3 rfl rfl ?_
      refine jj_cSIpN (pc2 := 94) (wd := wc_d Y X cs ad) (g := g) (rest := [.ref (ad 33)]) hC (kc_X10_tiePlace l D cs Y X ad 1 x2 x3 g _ hV) ⟨va_cnB (host := "PartedHouse") 3 hC.1.2.2.2.2 gX7_prepare_X10_tiePlace_n47 rfl rfl rfl (hC.2.1.2.1 _ (List.mem_of_getElem? (i := 9) rfl)) (hC.1.2.2.2.2 _ lk_X7_prepare_13) (by decide +kernel) ⟨by decide, by decide⟩, hC.1.2.2.2.2 _ lk_X7_prepare_12, trivial⟩ rfl (Nat.le_of_ble_eq_true rfl) _ rfl dX7_prepare_91 ⟨Nat.zero_le _, Nat.zero_le _⟩ rfl (fun r11 hV => ?_)
      refine cl_H_counts (pc2 := 95) hC hV.1 dX7_prepare_94 rfl ?_
      have hV := hV.2
      refine jj_i2l (pc2 := 96) hC dX7_prepare_95 rfl ?_
      refine jj_aload_n (pc2 := 97) hC dX7_prepare_96 rfl 1 rfl rfl ?_
      refine jj_iconst (pc2 := 98) hC 1 dX7_prepare_97 (by decide) rfl ?_
      refine cl_M_weights (pc2 := 99) hC (jx_lit (by decide) (by decide)) dX7_prepare_98 rfl ?_
      refine jj_i2l (pc2 := 100) hC dX7_prepare_99 rfl ?_
      refine jj_lmul (pc2 := 101) hC dX7_prepare_100 rfl ?_
      refine jj_topl (fun y12 ey12 => ?_)
      have hV := hV y12 ey12
      refine jj_lstore (pc2 := 103) hC [(4, .long y12), (0, .ref (ad 6)), (1, .ref (ad 14)), (2, .int x2), (3, .int x3)] dX7_prepare_101 (by decide) rfl rfl ?_
      refine jj_aload_n (pc2 := 104) hC dX7_prepare_103 rfl 1 rfl rfl ?_
      refine cg_P_counts (pc2 := 107) hC hi_X7_prepare_X7 lk_X7_prepare_5 dX7_prepare_104 rfl ?_
      refine jj_iconst (pc2 := 108) hC 2 dX7_prepare_107 (by decide) rfl ?_
      refine jj_iload_n (pc2 := 109) hC dX7_prepare_108 rfl 3 rfl rfl ?_
      refine jj_iload_n (pc2 := 110) hC dX7_prepare_109 rfl 4 rfl rfl ?_
      refine jj_cSIpN (pc2 := 113) (wd := wc_d Y X cs ad) (g := g) (rest := [.ref (ad 33)]) hC (kc_X10_tiePlace l D cs Y X ad 2 x2 x3 g _ hV) ⟨va_cnB (host := "PartedHouse") 3 hC.1.2.2.2.2 gX7_prepare_X10_tiePlace_n47 rfl rfl rfl (hC.2.1.2.1 _ (List.mem_of_getElem? (i := 9) rfl)) (hC.1.2.2.2.2 _ lk_X7_prepare_13) (by decide +kernel) ⟨by decide, by decide⟩, hC.1.2.2.2.2 _ lk_X7_prepare_12, trivial⟩ rfl (Nat.le_of_ble_eq_true rfl) _ rfl dX7_prepare_110 ⟨Nat.zero_le _, Nat.zero_le _⟩ rfl (fun r13 hV => ?_)
      refine cl_H_counts (pc2 := 114) hC hV.1 dX7_prepare_113 rfl ?_
      have hV := hV.2
      refine jj_i2l (pc2 := 115) hC dX7_prepare_114 rfl ?_
      refine jj_aload_n (pc2 := 116) hC dX7_prepare_115 rfl 2 rfl rfl ?_
      refine jj_iconst (pc2 := 117) hC 2 dX7_prepare_116 (by decide) rfl ?_
      refine cl_M_weights (pc2 := 118) hC (jx_lit (by decide) (by decide)) dX7_prepare_117 rfl ?_
      refine jj_i2l (pc2 := 119) hC dX7_prepare_118 rfl ?_
      refine jj_lmul (pc2 := 120) hC dX7_prepare_119 rfl ?_
      refine jj_topl (fun y14 ey14 => ?_)
      have hV := hV y14 ey14
      refine jj_lstore (pc2 := 122) hC [(6, .long y14), (4, .long y12), (0, .ref (ad 6)), (1, .ref (ad 14)), (2, .int x2), (3, .int x3)] dX7_prepare_120 (by decide) rfl rfl ?_
      refine jj_aload_n (pc2 := 123) hC dX7_prepare_122 rfl 2 rfl rfl ?_
      refine jj_iload_n (pc2 := 124) hC dX7_prepare_123 rfl 4 rfl rfl ?_
      refine jj_aload_n (pc2 := 125) hC dX7_prepare_124 rfl 2 rfl rfl ?_
      refine cg_P_text (pc2 := 128) hC hi_X7_prepare_X7 lk_X7_prepare_3 dX7_prepare_125 rfl ?_
      refine cg_T_homes (pc2 := 131) hC hi_X7_prepare_X9 lk_X7_prepare_7 dX7_prepare_128 rfl ?_
      refine jj_iload_n (pc2 := 132) hC dX7_prepare_131 rfl 5 rfl rfl ?_
      refine cl_T_homes (pc2 := 133) hC hV.1 dX7_prepare_132 rfl ?_
      have hV := hV.2
      refine jj_lload (pc2 := 135) hC dX7_prepare_133 1 rfl rfl ?_
      refine jj_lload (pc2 := 137) hC dX7_prepare_135 0 rfl rfl ?_
      refine jj_ladd (pc2 := 138) hC dX7_prepare_137 rfl ?_
      refine jj_cVV (pc2 := 141) (wd := wc_d Y X cs ad) (g := g) (rest := []) hC (Y.length + 6) (jx_at (V := wc_W cs ad g) rfl) rfl rfl (kc_X7_addToPair l D cs Y X ad x2 (g.2.2 5 x3.toNatClampNeg) (y12 + y14) g _ hV) (cwV 3 hC.1.2.2.2.2 gX7_prepare_X7_addToPair rfl rfl rfl (by decide +kernel) ⟨by decide, by decide⟩) rfl (Nat.le_of_ble_eq_true rfl) _ rfl dX7_prepare_138 ⟨Nat.zero_le _, Nat.zero_le _⟩ rfl (fun g16 hV => ?_)
      refine jj_iinc (pc2 := 144) hC (x3 + 1) [(3, .int (x3 + 1)), (6, .long y14), (4, .long y12), (0, .ref (ad 6)), (1, .ref (ad 14)), (2, .int x2)] dX7_prepare_141 5 rfl rfl (by decide) rfl rfl ?_
      refine jj_goto hC 73 dX7_prepare_144 (by decide) ?_
      exact jj_sub (lv2 := [(0, .ref (ad 6)), (1, .ref (ad 14)), (2, .int x2), (3, .int (x3 + 1))]) [3, 4, 5, 0] rfl (ih (x3 + 1) g16 hV)
set_option maxHeartbeats 4000000 in
set_option maxRecDepth 100000 in
theorem ac_X7_prepare_18 {p : Program} {l : Launch} {e : Env} {s : State} {m : MethodId} {args : Array Value} {below : List Frame} {meth : Method} {c : Code} {D : va_G} {cs : Nat → ClassId} {Y X : va_W} {ad : Nat → Nat} {g0 : cm_M} (hC : JC p s m args meth c D vwCl (va_A (wc_d Y X cs ad g0) s.heap.size) 8 cX7_prepare none wsX7_prepare RX7 (jt_tys cs)) (Post : cm_M → Prop) : ∀ (f : Nat) (x2 : Int32) (g : cm_M), vc_X7_prepare_18 Post f x2 g → JJ (wc_d Y X cs ad) p l e rm_X7_prepare s m args below meth c D vwCl (va_A (wc_d Y X cs ad g0) s.heap.size) 8 0 0 (MQ below (jj_QV (wc_d Y X cs ad) D vwCl (jt_tys cs) g0 s.heap.size Post) args s 0 0 (va_A (wc_d Y X cs ad g0) s.heap.size)) 18 [(0, .ref (ad 6)), (1, .ref (ad 14)), (2, .int x2)] [] g := by
  intro f
  induction f with
  | zero => intro x2 g hV; exact hV.elim
  | succ f ih =>
    intro x2 g hV
    rw [vc_X7_prepare_18] at hV
    refine jj_iload_n (pc2 := 19) hC dX7_prepare_18 rfl 2 rfl rfl ?_
    refine jj_aload_n (pc2 := 20) hC dX7_prepare_19 rfl 0 rfl rfl ?_
    refine cg_P_text (pc2 := 23) hC hi_X7_prepare_X7 lk_X7_prepare_3 dX7_prepare_20 rfl ?_
    refine cg_T_modules (pc2 := 26) hC hi_X7_prepare_X9 lk_X7_prepare_4 dX7_prepare_23 rfl ?_
    refine jj_icmp_ge (pc2 := 29) hC 153 dX7_prepare_26 (by decide) rfl (fun h4 => ?_) (fun h4 => ?_)
    · have hV := hV.1 h4
      exact jj_vret hC dX7_prepare_153 hV
    · have hV := hV.2 h4
      refine jj_iconst (pc2 := 30) hC 0 dX7_prepare_29 (by decide) rfl ?_
      refine jj_istore_n (pc2 := 31) hC [(3, .int 0), (0, .ref (ad 6)), (1, .ref (ad 14)), (2, .int x2)] dX7_prepare_30 rfl (by decide) rfl rfl ?_
      obtain ⟨n19, hV⟩ := hV
      refine jj_sub (lv2 := [(0, .ref (ad 6)), (1, .ref (ad 14)), (2, .int x2), (3, .int 0)]) [1, 2, 3, 0] rfl (ac_X7_prepare_31 hC x2 Post _ (fun g9 hV => ?_) n19 0 g hV)
      refine jj_iconst (pc2 := 72) hC 0 dX7_prepare_71 (by decide) rfl ?_
      refine jj_istore_n (pc2 := 73) hC [(3, .int 0), (0, .ref (ad 6)), (1, .ref (ad 14)), (2, .int x2)] dX7_prepare_72 rfl (by decide) rfl rfl ?_
      obtain ⟨n18, hV⟩ := hV
      refine jj_sub (lv2 := [(0, .ref (ad 6)), (1, .ref (ad 14)), (2, .int x2), (3, .int 0)]) [1, 2, 3, 0] rfl (ac_X7_prepare_73 hC x2 Post _ (fun g17 hV => ?_) n18 0 g9 hV)
      refine jj_iinc (pc2 := 150) hC (x2 + 1) [(2, .int (x2 + 1)), (0, .ref (ad 6)), (1, .ref (ad 14))] dX7_prepare_147 2 rfl rfl (by decide) rfl rfl ?_
      refine jj_goto hC 18 dX7_prepare_150 (by decide) ?_
      exact jj_sub (lv2 := [(0, .ref (ad 6)), (1, .ref (ad 14)), (2, .int (x2 + 1))]) [1, 2, 0] rfl (ih (x2 + 1) g17 hV)
set_option maxHeartbeats 4000000 in
set_option maxRecDepth 100000 in
theorem kc_X7_prepare (l : Launch) (D : va_G) (cs : Nat → ClassId) (Y X : va_W) (ad : Nat → Nat) (g0 : cm_M) (Post : cm_M → Prop) (hV : vc_X7_prepare g0 Post) : JV (wc_d Y X cs ad) D vwCl (jt_tys cs) l yX7_prepare wsX7_prepare rm_X7_prepare 0 0 [.ref (ad 6), .ref (ad 14)] g0 Post := by
  refine jj_metV (cc := cX7_prepare) (nL := 8) (ret := none) (by decide) rfl (Nat.le_of_ble_eq_true rfl) [(0, .ref (ad 6)), (1, .ref (ad 14))] rfl ?_
  intro p e s m args below meth c hC hnm
  rw [vc_X7_prepare] at hV
  refine jj_aload_n (pc2 := 1) hC dX7_prepare_0 rfl 0 rfl rfl ?_
  refine jj_aload_n (pc2 := 2) hC dX7_prepare_1 rfl 1 rfl rfl ?_
  refine jj_iconst (pc2 := 3) hC 3 dX7_prepare_2 (by decide) rfl ?_
  refine cl_M_weights (pc2 := 4) hC (jx_lit (by decide) (by decide)) dX7_prepare_3 rfl ?_
  refine jj_i2l (pc2 := 5) hC dX7_prepare_4 rfl ?_
  refine cp_P_wholeWeight (pc2 := 8) hC hi_X7_prepare_X7 lk_X7_prepare_1 dX7_prepare_5 rfl (fun g1 eg1 => ?_)
  have hV := hV g1 eg1
  refine jj_aload_n (pc2 := 9) hC dX7_prepare_8 rfl 0 rfl rfl ?_
  refine cg_P_pairs (pc2 := 12) hC hi_X7_prepare_X7 lk_X7_prepare_2 dX7_prepare_9 rfl ?_
  refine jj_lconst (pc2 := 13) hC 0 dX7_prepare_12 (by decide) rfl ?_
  refine jj_cSV (pc2 := 16) (wd := wc_d Y X cs ad) (g := g1) (rest := []) hC (kc_J7_fill_d0a16 l D cs Y X ad 0 g1 _ hV) (va_cwS 2 hC.1.2.2.2.2 gX7_prepare_J7_fill_d0a16 rfl rfl rfl (by decide +kernel) ⟨by decide, by decide⟩) rfl (Nat.le_of_ble_eq_true rfl) _ rfl dX7_prepare_13 ⟨Nat.zero_le _, Nat.zero_le _⟩ rfl (fun g3 hV => ?_)
  refine jj_iconst (pc2 := 17) hC 0 dX7_prepare_16 (by decide) rfl ?_
  refine jj_istore_n (pc2 := 18) hC [(2, .int 0), (0, .ref (ad 6)), (1, .ref (ad 14))] dX7_prepare_17 rfl (by decide) rfl rfl ?_
  obtain ⟨n20, hV⟩ := hV
  refine jj_sub (lv2 := [(0, .ref (ad 6)), (1, .ref (ad 14)), (2, .int 0)]) [1, 2, 0] rfl (ac_X7_prepare_18 hC Post n20 0 g3 hV)
theorem lk_J6_bitCount_0f7a4_1 : Cond.constant RJ6 265 (1431655765) ∈ wsJ6_bitCount_0f7a4 := List.mem_of_getElem? (i := 1) rfl
theorem lk_J6_bitCount_0f7a4_2 : Cond.constant RJ6 266 (858993459) ∈ wsJ6_bitCount_0f7a4 := List.mem_of_getElem? (i := 2) rfl
theorem lk_J6_bitCount_0f7a4_3 : Cond.constant RJ6 267 (252645135) ∈ wsJ6_bitCount_0f7a4 := List.mem_of_getElem? (i := 3) rfl
abbrev rm_J6_bitCount_0f7a4 : Room := { frames := 0, cells := 0, slots := 0, locals := 0 }
def vc_J6_bitCount_0f7a4 (a0 : Int32) (g0 : cm_M) (Post : Int32 → Prop) : Prop := ∀ y1 : Int32, y1 = a0 - (((a0.toUInt32 >>> ((1 : Int32).toUInt32 &&& Int32.toUInt32 31)).toInt32) &&& 1431655765) → (∀ y2 : Int32, y2 = (y1 &&& 858993459) + (((y1.toUInt32 >>> ((2 : Int32).toUInt32 &&& Int32.toUInt32 31)).toInt32) &&& 858993459) → (∀ y3 : Int32, y3 = (y2 + ((y2.toUInt32 >>> ((4 : Int32).toUInt32 &&& Int32.toUInt32 31)).toInt32)) &&& 252645135 → (∀ y4 : Int32, y4 = y3 + ((y3.toUInt32 >>> ((8 : Int32).toUInt32 &&& Int32.toUInt32 31)).toInt32) → (∀ y5 : Int32, y5 = y4 + ((y4.toUInt32 >>> ((16 : Int32).toUInt32 &&& Int32.toUInt32 31)).toInt32) → (Post (y5 &&& 63))))))
set_option maxHeartbeats 4000000 in
set_option maxRecDepth 100000 in
theorem kc_J6_bitCount_0f7a4 (l : Launch) (D : va_G) (cs : Nat → ClassId) (Y X : va_W) (ad : Nat → Nat) (a0 : Int32) (g0 : cm_M) (Post : Int32 → Prop) (hV : vc_J6_bitCount_0f7a4 a0 g0 Post) : JI (wc_d Y X cs ad) D vwCl (jt_tys cs) l yJ6_bitCount_0f7a4 wsJ6_bitCount_0f7a4 rm_J6_bitCount_0f7a4 0 0 [.int a0] g0 (fun r g2 => Post r ∧ g2 = g0) := by
  refine jj_metI (cc := cJ6_bitCount_0f7a4) (nL := 1) (ret := (some .int)) (by decide) rfl (Nat.le_of_ble_eq_true rfl) [(0, .int a0)] rfl ?_
  intro p e s m args below meth c hC hnm
  rw [vc_J6_bitCount_0f7a4] at hV
  refine jj_iload_n (pc2 := 1) hC dJ6_bitCount_0f7a4_0 rfl 0 rfl rfl ?_
  refine jj_iload_n (pc2 := 2) hC dJ6_bitCount_0f7a4_1 rfl 0 rfl rfl ?_
  refine jj_iconst (pc2 := 3) hC 1 dJ6_bitCount_0f7a4_2 (by decide) rfl ?_
  refine jj_iushr (pc2 := 4) hC dJ6_bitCount_0f7a4_3 rfl ?_
  refine jj_ldc_w (pc2 := 7) hC lk_J6_bitCount_0f7a4_1 dJ6_bitCount_0f7a4_4 rfl ?_
  refine jj_iand (pc2 := 8) hC dJ6_bitCount_0f7a4_7 rfl ?_
  refine jj_isub (pc2 := 9) hC dJ6_bitCount_0f7a4_8 rfl ?_
  refine jj_topi (fun y1 ey1 => ?_)
  have hV := hV y1 ey1
  refine jj_istore_n (pc2 := 10) hC [(0, .int y1)] dJ6_bitCount_0f7a4_9 rfl (by decide) rfl rfl ?_
  refine jj_iload_n (pc2 := 11) hC dJ6_bitCount_0f7a4_10 rfl 0 rfl rfl ?_
  refine jj_ldc_w (pc2 := 14) hC lk_J6_bitCount_0f7a4_2 dJ6_bitCount_0f7a4_11 rfl ?_
  refine jj_iand (pc2 := 15) hC dJ6_bitCount_0f7a4_14 rfl ?_
  refine jj_iload_n (pc2 := 16) hC dJ6_bitCount_0f7a4_15 rfl 0 rfl rfl ?_
  refine jj_iconst (pc2 := 17) hC 2 dJ6_bitCount_0f7a4_16 (by decide) rfl ?_
  refine jj_iushr (pc2 := 18) hC dJ6_bitCount_0f7a4_17 rfl ?_
  refine jj_ldc_w (pc2 := 21) hC lk_J6_bitCount_0f7a4_2 dJ6_bitCount_0f7a4_18 rfl ?_
  refine jj_iand (pc2 := 22) hC dJ6_bitCount_0f7a4_21 rfl ?_
  refine jj_iadd (pc2 := 23) hC dJ6_bitCount_0f7a4_22 rfl ?_
  refine jj_topi (fun y2 ey2 => ?_)
  have hV := hV y2 ey2
  refine jj_istore_n (pc2 := 24) hC [(0, .int y2)] dJ6_bitCount_0f7a4_23 rfl (by decide) rfl rfl ?_
  refine jj_iload_n (pc2 := 25) hC dJ6_bitCount_0f7a4_24 rfl 0 rfl rfl ?_
  refine jj_iload_n (pc2 := 26) hC dJ6_bitCount_0f7a4_25 rfl 0 rfl rfl ?_
  refine jj_iconst (pc2 := 27) hC 4 dJ6_bitCount_0f7a4_26 (by decide) rfl ?_
  refine jj_iushr (pc2 := 28) hC dJ6_bitCount_0f7a4_27 rfl ?_
  refine jj_iadd (pc2 := 29) hC dJ6_bitCount_0f7a4_28 rfl ?_
  refine jj_ldc_w (pc2 := 32) hC lk_J6_bitCount_0f7a4_3 dJ6_bitCount_0f7a4_29 rfl ?_
  refine jj_iand (pc2 := 33) hC dJ6_bitCount_0f7a4_32 rfl ?_
  refine jj_topi (fun y3 ey3 => ?_)
  have hV := hV y3 ey3
  refine jj_istore_n (pc2 := 34) hC [(0, .int y3)] dJ6_bitCount_0f7a4_33 rfl (by decide) rfl rfl ?_
  refine jj_iload_n (pc2 := 35) hC dJ6_bitCount_0f7a4_34 rfl 0 rfl rfl ?_
  refine jj_iload_n (pc2 := 36) hC dJ6_bitCount_0f7a4_35 rfl 0 rfl rfl ?_
  refine jj_bipush (pc2 := 38) hC 8 dJ6_bitCount_0f7a4_36 (by decide) rfl ?_
  refine jj_iushr (pc2 := 39) hC dJ6_bitCount_0f7a4_38 rfl ?_
  refine jj_iadd (pc2 := 40) hC dJ6_bitCount_0f7a4_39 rfl ?_
  refine jj_topi (fun y4 ey4 => ?_)
  have hV := hV y4 ey4
  refine jj_istore_n (pc2 := 41) hC [(0, .int y4)] dJ6_bitCount_0f7a4_40 rfl (by decide) rfl rfl ?_
  refine jj_iload_n (pc2 := 42) hC dJ6_bitCount_0f7a4_41 rfl 0 rfl rfl ?_
  refine jj_iload_n (pc2 := 43) hC dJ6_bitCount_0f7a4_42 rfl 0 rfl rfl ?_
  refine jj_bipush (pc2 := 45) hC 16 dJ6_bitCount_0f7a4_43 (by decide) rfl ?_
  refine jj_iushr (pc2 := 46) hC dJ6_bitCount_0f7a4_45 rfl ?_
  refine jj_iadd (pc2 := 47) hC dJ6_bitCount_0f7a4_46 rfl ?_
  refine jj_topi (fun y5 ey5 => ?_)
  have hV := hV y5 ey5
  refine jj_istore_n (pc2 := 48) hC [(0, .int y5)] dJ6_bitCount_0f7a4_47 rfl (by decide) rfl rfl ?_
  refine jj_iload_n (pc2 := 49) hC dJ6_bitCount_0f7a4_48 rfl 0 rfl rfl ?_
  refine jj_bipush (pc2 := 51) hC 63 dJ6_bitCount_0f7a4_49 (by decide) rfl ?_
  refine jj_iand (pc2 := 52) hC dJ6_bitCount_0f7a4_51 rfl ?_
  exact jj_iret hC dJ6_bitCount_0f7a4_52 ⟨hV, rfl⟩
