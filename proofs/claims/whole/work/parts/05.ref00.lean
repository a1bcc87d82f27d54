abbrev rm_X11_in : Room := { frames := 0, cells := 0, slots := 0, locals := 0 }
def vr_in (a0 : Int32) (a1 : Int32) (a2 : Int32) (g0 : jm_M) (Post : Int32 → Prop) : Prop := ((a0 < a1) → (Post 0)) ∧ ((¬ a0 < a1) → (((a2 < a0) → (Post 0)) ∧ ((¬ a2 < a0) → (Post 1))))
set_option maxHeartbeats 4000000 in
set_option maxRecDepth 100000 in
theorem cr_in (l : Launch) (D : va_G) (cs : Nat → ClassId) (Y X : va_W) (ad : Nat → Nat) (a0 : Int32) (a1 : Int32) (a2 : Int32) (g0 : jm_M) (Post : Int32 → Prop) (hV : vr_in a0 a1 a2 g0 Post) : JI (wr_d Y X cs ad) D vwCl (jt_tys cs) l yX11_in wsX11_in rm_X11_in 0 0 [.int a0, .int a1, .int a2] g0 (fun r g2 => Post r ∧ g2 = g0) := by
  refine jj_metI (cc := cX11_in) (nL := 3) (ret := (some .boolean)) (by decide) rfl (Nat.le_of_ble_eq_true rfl) [(0, .int a0), (1, .int a1), (2, .int a2)] rfl ?_
  intro p e s m args below meth c hC hnm
  rw [vr_in] at hV
  refine jj_iload_n (pc2 := 1) hC dX11_in_0 rfl 0 rfl rfl ?_
  refine jj_iload_n (pc2 := 2) hC dX11_in_1 rfl 1 rfl rfl ?_
  refine jj_icmp_lt (pc2 := 5) hC 14 dX11_in_2 (by decide) rfl (fun h1 => ?_) (fun h1 => ?_)
  · have hV := hV.1 h1
    refine jj_iconst (pc2 := 15) hC 0 dX11_in_14 (by decide) rfl ?_
    exact jj_zret hC jj_nb0 dX11_in_15 ⟨hV, rfl⟩
  · have hV := hV.2 h1
    refine jj_iload_n (pc2 := 6) hC dX11_in_5 rfl 0 rfl rfl ?_
    refine jj_iload_n (pc2 := 7) hC dX11_in_6 rfl 2 rfl rfl ?_
    refine jj_icmp_gt (pc2 := 10) hC 14 dX11_in_7 (by decide) rfl (fun h2 => ?_) (fun h2 => ?_)
    · have hV := hV.1 h2
      refine jj_iconst (pc2 := 15) hC 0 dX11_in_14 (by decide) rfl ?_
      exact jj_zret hC jj_nb0 dX11_in_15 ⟨hV, rfl⟩
    · have hV := hV.2 h2
      refine jj_iconst (pc2 := 11) hC 1 dX11_in_10 (by decide) rfl ?_
      refine jj_goto hC 15 dX11_in_11 (by decide) ?_
      exact jj_zret hC jj_nb1 dX11_in_15 ⟨hV, rfl⟩
theorem hi_X11_isModule_X11 : ∀ w ∈ u_ws RX11 TX11 63, w ∈ wsX11_isModule := fun _ h => List.mem_cons_of_mem _ (List.mem_append_right _ h)
theorem lk_X11_isModule_1 : Cond.fieldLink RX11 148 "PartedHouseModel" "modules" "I" ∈ wsX11_isModule := List.mem_of_getElem? (i := 1) rfl
abbrev rm_X11_isModule : Room := { frames := 1, cells := 0, slots := 0, locals := 22 }
def vr_isModule (a1 : Int32) (g0 : jm_M) (Post : Int32 → Prop) : Prop := vr_in a1 0 ((g0 1 0) - 1) g0 (fun (r1 : Int32) => (jj_nb r1) ∧ (Post r1))
set_option maxHeartbeats 4000000 in
set_option maxRecDepth 100000 in
theorem cr_isModule (l : Launch) (D : va_G) (cs : Nat → ClassId) (Y X : va_W) (ad : Nat → Nat) (a1 : Int32) (g0 : jm_M) (Post : Int32 → Prop) (hV : vr_isModule a1 g0 Post) : JI (wr_d Y X cs ad) D vwCl (jt_tys cs) l yX11_isModule wsX11_isModule rm_X11_isModule 0 0 [.ref (ad 0), .int a1] g0 (fun r g2 => Post r ∧ g2 = g0) := by
  refine jj_metI (cc := cX11_isModule) (nL := 2) (ret := (some .boolean)) (by decide) rfl (Nat.le_of_ble_eq_true rfl) [(0, .ref (ad 0)), (1, .int a1)] rfl ?_
  intro p e s m args below meth c hC hnm
  rw [vr_isModule] at hV
  refine jj_iload_n (pc2 := 1) hC dX11_isModule_0 rfl 1 rfl rfl ?_
  refine jj_iconst (pc2 := 2) hC 0 dX11_isModule_1 (by decide) rfl ?_
  refine jj_aload_n (pc2 := 3) hC dX11_isModule_2 rfl 0 rfl rfl ?_
  refine rg_1 (pc2 := 6) hC hi_X11_isModule_X11 lk_X11_isModule_1 dX11_isModule_3 rfl ?_
  refine jj_iconst (pc2 := 7) hC 1 dX11_isModule_6 (by decide) rfl ?_
  refine jj_isub (pc2 := 8) hC dX11_isModule_7 rfl ?_
  refine jj_cSIp (pc2 := 11) (wd := wr_d Y X cs ad) (g := g0) (rest := []) hC (cr_in l D cs Y X ad a1 0 ((g0 1 0) - 1) g0 _ hV) (va_cwS 3 hC.1.2.2.2.2 gX11_isModule_X11_in rfl rfl rfl (by decide +kernel) ⟨by decide, by decide⟩) rfl (Nat.le_of_ble_eq_true rfl) _ rfl dX11_isModule_8 ⟨Nat.zero_le _, Nat.zero_le _⟩ rfl (fun r1 hV => ?_)
  exact jj_zret hC hV.1 dX11_isModule_11 ⟨hV.2, rfl⟩
theorem hi_X11_isTable_X11 : ∀ w ∈ u_ws RX11 TX11 63, w ∈ wsX11_isTable := fun _ h => List.mem_cons_of_mem _ (List.mem_append_right _ h)
theorem lk_X11_isTable_1 : Cond.fieldLink RX11 155 "PartedHouseModel" "tables" "I" ∈ wsX11_isTable := List.mem_of_getElem? (i := 1) rfl
abbrev rm_X11_isTable : Room := { frames := 1, cells := 0, slots := 0, locals := 22 }
def vr_isTable (a1 : Int32) (g0 : jm_M) (Post : Int32 → Prop) : Prop := vr_in a1 0 ((g0 3 0) - 1) g0 (fun (r1 : Int32) => (jj_nb r1) ∧ (Post r1))
set_option maxHeartbeats 4000000 in
set_option maxRecDepth 100000 in
theorem cr_isTable (l : Launch) (D : va_G) (cs : Nat → ClassId) (Y X : va_W) (ad : Nat → Nat) (a1 : Int32) (g0 : jm_M) (Post : Int32 → Prop) (hV : vr_isTable a1 g0 Post) : JI (wr_d Y X cs ad) D vwCl (jt_tys cs) l yX11_isTable wsX11_isTable rm_X11_isTable 0 0 [.ref (ad 0), .int a1] g0 (fun r g2 => Post r ∧ g2 = g0) := by
  refine jj_metI (cc := cX11_isTable) (nL := 2) (ret := (some .boolean)) (by decide) rfl (Nat.le_of_ble_eq_true rfl) [(0, .ref (ad 0)), (1, .int a1)] rfl ?_
  intro p e s m args below meth c hC hnm
  rw [vr_isTable] at hV
  refine jj_iload_n (pc2 := 1) hC dX11_isTable_0 rfl 1 rfl rfl ?_
  refine jj_iconst (pc2 := 2) hC 0 dX11_isTable_1 (by decide) rfl ?_
  refine jj_aload_n (pc2 := 3) hC dX11_isTable_2 rfl 0 rfl rfl ?_
  refine rg_3 (pc2 := 6) hC hi_X11_isTable_X11 lk_X11_isTable_1 dX11_isTable_3 rfl ?_
  refine jj_iconst (pc2 := 7) hC 1 dX11_isTable_6 (by decide) rfl ?_
  refine jj_isub (pc2 := 8) hC dX11_isTable_7 rfl ?_
  refine jj_cSIp (pc2 := 11) (wd := wr_d Y X cs ad) (g := g0) (rest := []) hC (cr_in l D cs Y X ad a1 0 ((g0 3 0) - 1) g0 _ hV) (va_cwS 3 hC.1.2.2.2.2 gX11_isTable_X11_in rfl rfl rfl (by decide +kernel) ⟨by decide, by decide⟩) rfl (Nat.le_of_ble_eq_true rfl) _ rfl dX11_isTable_8 ⟨Nat.zero_le _, Nat.zero_le _⟩ rfl (fun r1 hV => ?_)
  exact jj_zret hC hV.1 dX11_isTable_11 ⟨hV.2, rfl⟩
theorem hi_X11_isRoutine_X11 : ∀ w ∈ u_ws RX11 TX11 63, w ∈ wsX11_isRoutine := fun _ h => List.mem_cons_of_mem _ (List.mem_append_right _ h)
theorem lk_X11_isRoutine_1 : Cond.fieldLink RX11 158 "PartedHouseModel" "routines" "I" ∈ wsX11_isRoutine := List.mem_of_getElem? (i := 1) rfl
abbrev rm_X11_isRoutine : Room := { frames := 1, cells := 0, slots := 0, locals := 22 }
def vr_isRoutine (a1 : Int32) (g0 : jm_M) (Post : Int32 → Prop) : Prop := vr_in a1 0 ((g0 5 0) - 1) g0 (fun (r1 : Int32) => (jj_nb r1) ∧ (Post r1))
set_option maxHeartbeats 4000000 in
set_option maxRecDepth 100000 in
theorem cr_isRoutine (l : Launch) (D : va_G) (cs : Nat → ClassId) (Y X : va_W) (ad : Nat → Nat) (a1 : Int32) (g0 : jm_M) (Post : Int32 → Prop) (hV : vr_isRoutine a1 g0 Post) : JI (wr_d Y X cs ad) D vwCl (jt_tys cs) l yX11_isRoutine wsX11_isRoutine rm_X11_isRoutine 0 0 [.ref (ad 0), .int a1] g0 (fun r g2 => Post r ∧ g2 = g0) := by
  refine jj_metI (cc := cX11_isRoutine) (nL := 2) (ret := (some .boolean)) (by decide) rfl (Nat.le_of_ble_eq_true rfl) [(0, .ref (ad 0)), (1, .int a1)] rfl ?_
  intro p e s m args below meth c hC hnm
  rw [vr_isRoutine] at hV
  refine jj_iload_n (pc2 := 1) hC dX11_isRoutine_0 rfl 1 rfl rfl ?_
  refine jj_iconst (pc2 := 2) hC 0 dX11_isRoutine_1 (by decide) rfl ?_
  refine jj_aload_n (pc2 := 3) hC dX11_isRoutine_2 rfl 0 rfl rfl ?_
  refine rg_5 (pc2 := 6) hC hi_X11_isRoutine_X11 lk_X11_isRoutine_1 dX11_isRoutine_3 rfl ?_
  refine jj_iconst (pc2 := 7) hC 1 dX11_isRoutine_6 (by decide) rfl ?_
  refine jj_isub (pc2 := 8) hC dX11_isRoutine_7 rfl ?_
  refine jj_cSIp (pc2 := 11) (wd := wr_d Y X cs ad) (g := g0) (rest := []) hC (cr_in l D cs Y X ad a1 0 ((g0 5 0) - 1) g0 _ hV) (va_cwS 3 hC.1.2.2.2.2 gX11_isRoutine_X11_in rfl rfl rfl (by decide +kernel) ⟨by decide, by decide⟩) rfl (Nat.le_of_ble_eq_true rfl) _ rfl dX11_isRoutine_8 ⟨Nat.zero_le _, Nat.zero_le _⟩ rfl (fun r1 hV => ?_)
  exact jj_zret hC hV.1 dX11_isRoutine_11 ⟨hV.2, rfl⟩
abbrev rm_X11_isRoom : Room := { frames := 1, cells := 0, slots := 0, locals := 22 }
def vr_isRoom (a0 : Int32) (g0 : jm_M) (Post : Int32 → Prop) : Prop := vr_in a0 0 5 g0 (fun (r1 : Int32) => (jj_nb r1) ∧ (Post r1))
set_option maxHeartbeats 4000000 in
set_option maxRecDepth 100000 in
theorem cr_isRoom (l : Launch) (D : va_G) (cs : Nat → ClassId) (Y X : va_W) (ad : Nat → Nat) (a0 : Int32) (g0 : jm_M) (Post : Int32 → Prop) (hV : vr_isRoom a0 g0 Post) : JI (wr_d Y X cs ad) D vwCl (jt_tys cs) l yX11_isRoom wsX11_isRoom rm_X11_isRoom 0 0 [.int a0] g0 (fun r g2 => Post r ∧ g2 = g0) := by
  refine jj_metI (cc := cX11_isRoom) (nL := 1) (ret := (some .boolean)) (by decide) rfl (Nat.le_of_ble_eq_true rfl) [(0, .int a0)] rfl ?_
  intro p e s m args below meth c hC hnm
  rw [vr_isRoom] at hV
  refine jj_iload_n (pc2 := 1) hC dX11_isRoom_0 rfl 0 rfl rfl ?_
  refine jj_iconst (pc2 := 2) hC 0 dX11_isRoom_1 (by decide) rfl ?_
  refine jj_iconst (pc2 := 3) hC 5 dX11_isRoom_2 (by decide) rfl ?_
  refine jj_cSIp (pc2 := 6) (wd := wr_d Y X cs ad) (g := g0) (rest := []) hC (cr_in l D cs Y X ad a0 0 5 g0 _ hV) (va_cwS 3 hC.1.2.2.2.2 gX11_isRoom_X11_in rfl rfl rfl (by decide +kernel) ⟨by decide, by decide⟩) rfl (Nat.le_of_ble_eq_true rfl) _ rfl dX11_isRoom_3 ⟨Nat.zero_le _, Nat.zero_le _⟩ rfl (fun r1 hV => ?_)
  exact jj_zret hC hV.1 dX11_isRoom_6 ⟨hV.2, rfl⟩
theorem hi_X11_module_X11 : ∀ w ∈ u_ws RX11 TX11 63, w ∈ wsX11_module := fun _ h => List.mem_cons_of_mem _ (List.mem_append_right _ h)
theorem lk_X11_module_1 : Cond.fieldLink RX11 148 "PartedHouseModel" "modules" "I" ∈ wsX11_module := List.mem_of_getElem? (i := 1) rfl
theorem lk_X11_module_2 : Cond.fieldLink RX11 7 "PartedHouseModel" "size" "[I" ∈ wsX11_module := List.mem_of_getElem? (i := 2) rfl
abbrev rm_X11_module : Room := { frames := 1, cells := 0, slots := 0, locals := 22 }
def vr_module (a1 : Int32) (g0 : jm_M) (Post : Int32 → jm_M → Prop) : Prop := vr_in a1 1 99 g0 (fun (r1 : Int32) => ((¬ r1 = 0) → (((¬ (g0 1 0) = 10) → ((vp_in (g0 1 0) 10) ∧ (∀ g4 : jm_M, g4 = jm_a g0 2 (g0 1 0) a1 → (∀ g5 : jm_M, g5 = jm_s g4 1 ((g4 1 0) + 1) → (Post ((g5 1 0) - 1) g5))))) ∧ (((g0 1 0) = 10) → (Post (-3) g0)))) ∧ ((r1 = 0) → (Post (-1) g0)))
set_option maxHeartbeats 4000000 in
set_option maxRecDepth 100000 in
theorem cr_module (l : Launch) (D : va_G) (cs : Nat → ClassId) (Y X : va_W) (ad : Nat → Nat) (a1 : Int32) (g0 : jm_M) (Post : Int32 → jm_M → Prop) (hV : vr_module a1 g0 Post) : JI (wr_d Y X cs ad) D vwCl (jt_tys cs) l yX11_module wsX11_module rm_X11_module 0 0 [.ref (ad 0), .int a1] g0 Post := by
  refine jj_metI (cc := cX11_module) (nL := 2) (ret := (some .int)) (by decide) rfl (Nat.le_of_ble_eq_true rfl) [(0, .ref (ad 0)), (1, .int a1)] rfl ?_
  intro p e s m args below meth c hC hnm
  rw [vr_module] at hV
  refine jj_iload_n (pc2 := 1) hC dX11_module_0 rfl 1 rfl rfl ?_
  refine jj_iconst (pc2 := 2) hC 1 dX11_module_1 (by decide) rfl ?_
  refine jj_bipush (pc2 := 4) hC 99 dX11_module_2 (by decide) rfl ?_
  refine jj_cSIp (pc2 := 7) (wd := wr_d Y X cs ad) (g := g0) (rest := []) hC (cr_in l D cs Y X ad a1 1 99 g0 _ hV) (va_cwS 3 hC.1.2.2.2.2 gX11_module_X11_in rfl rfl rfl (by decide +kernel) ⟨by decide, by decide⟩) rfl (Nat.le_of_ble_eq_true rfl) _ rfl dX11_module_4 ⟨Nat.zero_le _, Nat.zero_le _⟩ rfl (fun r1 hV => ?_)
  refine jj_if_ne (pc2 := 10) hC 12 dX11_module_7 (by decide) rfl (fun h2 => ?_) (fun h2 => ?_)
  · have hV := hV.1 h2
    refine jj_aload_n (pc2 := 13) hC dX11_module_12 rfl 0 rfl rfl ?_
    refine rg_1 (pc2 := 16) hC hi_X11_module_X11 lk_X11_module_1 dX11_module_13 rfl ?_
    refine jj_bipush (pc2 := 18) hC 10 dX11_module_16 (by decide) rfl ?_
    refine jj_icmp_ne (pc2 := 21) hC 24 dX11_module_18 (by decide) rfl (fun h3 => ?_) (fun h3 => ?_)
    · have hV := hV.1 h3
      refine jj_aload_n (pc2 := 25) hC dX11_module_24 rfl 0 rfl rfl ?_
      refine rg_2 (pc2 := 28) hC hi_X11_module_X11 lk_X11_module_2 dX11_module_25 rfl ?_
      refine jj_aload_n (pc2 := 29) hC dX11_module_28 rfl 0 rfl rfl ?_
      refine rg_1 (pc2 := 32) hC hi_X11_module_X11 lk_X11_module_1 dX11_module_29 rfl ?_
      refine jj_iload_n (pc2 := 33) hC dX11_module_32 rfl 1 rfl rfl ?_
      refine rs_2 (pc2 := 34) hC hV.1 dX11_module_33 rfl (fun g4 eg4 => ?_)
      have hV := hV.2 g4 eg4
      refine jj_aload_n (pc2 := 35) hC dX11_module_34 rfl 0 rfl rfl ?_
      refine jj_dup (pc2 := 36) hC dX11_module_35 rfl rfl ?_
      refine rg_1 (pc2 := 39) hC hi_X11_module_X11 lk_X11_module_1 dX11_module_36 rfl ?_
      refine jj_iconst (pc2 := 40) hC 1 dX11_module_39 (by decide) rfl ?_
      refine jj_iadd (pc2 := 41) hC dX11_module_40 rfl ?_
      refine rp_1 (pc2 := 44) hC hi_X11_module_X11 lk_X11_module_1 dX11_module_41 rfl (fun g5 eg5 => ?_)
      have hV := hV g5 eg5
      refine jj_aload_n (pc2 := 45) hC dX11_module_44 rfl 0 rfl rfl ?_
      refine rg_1 (pc2 := 48) hC hi_X11_module_X11 lk_X11_module_1 dX11_module_45 rfl ?_
      refine jj_iconst (pc2 := 49) hC 1 dX11_module_48 (by decide) rfl ?_
      refine jj_isub (pc2 := 50) hC dX11_module_49 rfl ?_
      exact jj_iret hC dX11_module_50 hV
    · have hV := hV.2 h3
      refine jj_bipush (pc2 := 23) hC (-3) dX11_module_21 (by decide) rfl ?_
      exact jj_iret hC dX11_module_23 hV
  · have hV := hV.2 h2
    refine jj_iconst (pc2 := 11) hC (-1) dX11_module_10 (by decide) rfl ?_
    exact jj_iret hC dX11_module_11 hV
theorem hi_X11_table_X11 : ∀ w ∈ u_ws RX11 TX11 63, w ∈ wsX11_table := fun _ h => List.mem_cons_of_mem _ (List.mem_append_right _ h)
theorem lk_X11_table_1 : Cond.fieldLink RX11 155 "PartedHouseModel" "tables" "I" ∈ wsX11_table := List.mem_of_getElem? (i := 1) rfl
theorem lk_X11_table_2 : Cond.fieldLink RX11 13 "PartedHouseModel" "home" "[I" ∈ wsX11_table := List.mem_of_getElem? (i := 2) rfl
abbrev rm_X11_table : Room := { frames := 2, cells := 0, slots := 0, locals := 43 }
def vr_table (a1 : Int32) (g0 : jm_M) (Post : Int32 → jm_M → Prop) : Prop := vr_isModule a1 g0 (fun (r1 : Int32) => ((¬ r1 = 0) → (((¬ (g0 3 0) = 16) → ((vp_in (g0 3 0) 16) ∧ (∀ g4 : jm_M, g4 = jm_a g0 4 (g0 3 0) a1 → (∀ g5 : jm_M, g5 = jm_s g4 3 ((g4 3 0) + 1) → (Post ((g5 3 0) - 1) g5))))) ∧ (((g0 3 0) = 16) → (Post (-3) g0)))) ∧ ((r1 = 0) → (Post (-1) g0)))
set_option maxHeartbeats 4000000 in
set_option maxRecDepth 100000 in
theorem cr_table (l : Launch) (D : va_G) (cs : Nat → ClassId) (Y X : va_W) (ad : Nat → Nat) (a1 : Int32) (g0 : jm_M) (Post : Int32 → jm_M → Prop) (hV : vr_table a1 g0 Post) : JI (wr_d Y X cs ad) D vwCl (jt_tys cs) l yX11_table wsX11_table rm_X11_table 0 0 [.ref (ad 0), .int a1] g0 Post := by
  refine jj_metI (cc := cX11_table) (nL := 2) (ret := (some .int)) (by decide) rfl (Nat.le_of_ble_eq_true rfl) [(0, .ref (ad 0)), (1, .int a1)] rfl ?_
  intro p e s m args below meth c hC hnm
  rw [vr_table] at hV
  refine jj_aload_n (pc2 := 1) hC dX11_table_0 rfl 0 rfl rfl ?_
  refine jj_iload_n (pc2 := 2) hC dX11_table_1 rfl 1 rfl rfl ?_
  refine jj_cVIp (pc2 := 5) (wd := wr_d Y X cs ad) (g := g0) (rest := []) hC (Y.length + 0) (jx_at (V := wr_W cs ad g0) rfl) rfl rfl (cr_isModule l D cs Y X ad a1 g0 _ hV) (cwV 1 hC.1.2.2.2.2 gX11_table_X11_isModule rfl rfl rfl (by decide +kernel) ⟨by decide, by decide⟩) rfl (Nat.le_of_ble_eq_true rfl) _ rfl dX11_table_2 ⟨Nat.zero_le _, Nat.zero_le _⟩ rfl (fun r1 hV => ?_)
  refine jj_if_ne (pc2 := 8) hC 10 dX11_table_5 (by decide) rfl (fun h2 => ?_) (fun h2 => ?_)
  · have hV := hV.1 h2
    refine jj_aload_n (pc2 := 11) hC dX11_table_10 rfl 0 rfl rfl ?_
    refine rg_3 (pc2 := 14) hC hi_X11_table_X11 lk_X11_table_1 dX11_table_11 rfl ?_
    refine jj_bipush (pc2 := 16) hC 16 dX11_table_14 (by decide) rfl ?_
    refine jj_icmp_ne (pc2 := 19) hC 22 dX11_table_16 (by decide) rfl (fun h3 => ?_) (fun h3 => ?_)
    · have hV := hV.1 h3
      refine jj_aload_n (pc2 := 23) hC dX11_table_22 rfl 0 rfl rfl ?_
      refine rg_4 (pc2 := 26) hC hi_X11_table_X11 lk_X11_table_2 dX11_table_23 rfl ?_
      refine jj_aload_n (pc2 := 27) hC dX11_table_26 rfl 0 rfl rfl ?_
      refine rg_3 (pc2 := 30) hC hi_X11_table_X11 lk_X11_table_1 dX11_table_27 rfl ?_
      refine jj_iload_n (pc2 := 31) hC dX11_table_30 rfl 1 rfl rfl ?_
      refine rs_4 (pc2 := 32) hC hV.1 dX11_table_31 rfl (fun g4 eg4 => ?_)
      have hV := hV.2 g4 eg4
      refine jj_aload_n (pc2 := 33) hC dX11_table_32 rfl 0 rfl rfl ?_
      refine jj_dup (pc2 := 34) hC dX11_table_33 rfl rfl ?_
      refine rg_3 (pc2 := 37) hC hi_X11_table_X11 lk_X11_table_1 dX11_table_34 rfl ?_
      refine jj_iconst (pc2 := 38) hC 1 dX11_table_37 (by decide) rfl ?_
      refine jj_iadd (pc2 := 39) hC dX11_table_38 rfl ?_
      refine rp_3 (pc2 := 42) hC hi_X11_table_X11 lk_X11_table_1 dX11_table_39 rfl (fun g5 eg5 => ?_)
      have hV := hV g5 eg5
      refine jj_aload_n (pc2 := 43) hC dX11_table_42 rfl 0 rfl rfl ?_
      refine rg_3 (pc2 := 46) hC hi_X11_table_X11 lk_X11_table_1 dX11_table_43 rfl ?_
      refine jj_iconst (pc2 := 47) hC 1 dX11_table_46 (by decide) rfl ?_
      refine jj_isub (pc2 := 48) hC dX11_table_47 rfl ?_
      exact jj_iret hC dX11_table_48 hV
    · have hV := hV.2 h3
      refine jj_bipush (pc2 := 21) hC (-3) dX11_table_19 (by decide) rfl ?_
      exact jj_iret hC dX11_table_21 hV
  · have hV := hV.2 h2
    refine jj_iconst (pc2 := 9) hC (-1) dX11_table_8 (by decide) rfl ?_
    exact jj_iret hC dX11_table_9 hV
theorem hi_X11_routine_X11 : ∀ w ∈ u_ws RX11 TX11 63, w ∈ wsX11_routine := fun _ h => List.mem_cons_of_mem _ (List.mem_append_right _ h)
theorem lk_X11_routine_1 : Cond.fieldLink RX11 158 "PartedHouseModel" "routines" "I" ∈ wsX11_routine := List.mem_of_getElem? (i := 1) rfl
theorem lk_X11_routine_2 : Cond.fieldLink RX11 16 "PartedHouseModel" "moduleOf" "[I" ∈ wsX11_routine := List.mem_of_getElem? (i := 2) rfl
abbrev rm_X11_routine : Room := { frames := 2, cells := 0, slots := 0, locals := 43 }
def vr_routine (a1 : Int32) (g0 : jm_M) (Post : Int32 → jm_M → Prop) : Prop := vr_isModule a1 g0 (fun (r1 : Int32) => ((¬ r1 = 0) → (((¬ (g0 5 0) = 40) → ((vp_in (g0 5 0) 40) ∧ (∀ g4 : jm_M, g4 = jm_a g0 6 (g0 5 0) a1 → (∀ g5 : jm_M, g5 = jm_s g4 5 ((g4 5 0) + 1) → (Post ((g5 5 0) - 1) g5))))) ∧ (((g0 5 0) = 40) → (Post (-3) g0)))) ∧ ((r1 = 0) → (Post (-1) g0)))
set_option maxHeartbeats 4000000 in
set_option maxRecDepth 100000 in
theorem cr_routine (l : Launch) (D : va_G) (cs : Nat → ClassId) (Y X : va_W) (ad : Nat → Nat) (a1 : Int32) (g0 : jm_M) (Post : Int32 → jm_M → Prop) (hV : vr_routine a1 g0 Post) : JI (wr_d Y X cs ad) D vwCl (jt_tys cs) l yX11_routine wsX11_routine rm_X11_routine 0 0 [.ref (ad 0), .int a1] g0 Post := by
  refine jj_metI (cc := cX11_routine) (nL := 2) (ret := (some .int)) (by decide) rfl (Nat.le_of_ble_eq_true rfl) [(0, .ref (ad 0)), (1, .int a1)] rfl ?_
  intro p e s m args below meth c hC hnm
  rw [vr_routine] at hV
  refine jj_aload_n (pc2 := 1) hC dX11_routine_0 rfl 0 rfl rfl ?_
  refine jj_iload_n (pc2 := 2) hC dX11_routine_1 rfl 1 rfl rfl ?_
  refine jj_cVIp (pc2 := 5) (wd := wr_d Y X cs ad) (g := g0) (rest := []) hC (Y.length + 0) (jx_at (V := wr_W cs ad g0) rfl) rfl rfl (cr_isModule l D cs Y X ad a1 g0 _ hV) (cwV 1 hC.1.2.2.2.2 gX11_routine_X11_isModule rfl rfl rfl (by decide +kernel) ⟨by decide, by decide⟩) rfl (Nat.le_of_ble_eq_true rfl) _ rfl dX11_routine_2 ⟨Nat.zero_le _, Nat.zero_le _⟩ rfl (fun r1 hV => ?_)
  refine jj_if_ne (pc2 := 8) hC 10 dX11_routine_5 (by decide) rfl (fun h2 => ?_) (fun h2 => ?_)
  · have hV := hV.1 h2
    refine jj_aload_n (pc2 := 11) hC dX11_routine_10 rfl 0 rfl rfl ?_
    refine rg_5 (pc2 := 14) hC hi_X11_routine_X11 lk_X11_routine_1 dX11_routine_11 rfl ?_
    refine jj_bipush (pc2 := 16) hC 40 dX11_routine_14 (by decide) rfl ?_
    refine jj_icmp_ne (pc2 := 19) hC 22 dX11_routine_16 (by decide) rfl (fun h3 => ?_) (fun h3 => ?_)
    · have hV := hV.1 h3
      refine jj_aload_n (pc2 := 23) hC dX11_routine_22 rfl 0 rfl rfl ?_
      refine rg_6 (pc2 := 26) hC hi_X11_routine_X11 lk_X11_routine_2 dX11_routine_23 rfl ?_
      refine jj_aload_n (pc2 := 27) hC dX11_routine_26 rfl 0 rfl rfl ?_
      refine rg_5 (pc2 := 30) hC hi_X11_routine_X11 lk_X11_routine_1 dX11_routine_27 rfl ?_
      refine jj_iload_n (pc2 := 31) hC dX11_routine_30 rfl 1 rfl rfl ?_
      refine rs_6 (pc2 := 32) hC hV.1 dX11_routine_31 rfl (fun g4 eg4 => ?_)
      have hV := hV.2 g4 eg4
      refine jj_aload_n (pc2 := 33) hC dX11_routine_32 rfl 0 rfl rfl ?_
      refine jj_dup (pc2 := 34) hC dX11_routine_33 rfl rfl ?_
      refine rg_5 (pc2 := 37) hC hi_X11_routine_X11 lk_X11_routine_1 dX11_routine_34 rfl ?_
      refine jj_iconst (pc2 := 38) hC 1 dX11_routine_37 (by decide) rfl ?_
      refine jj_iadd (pc2 := 39) hC dX11_routine_38 rfl ?_
      refine rp_5 (pc2 := 42) hC hi_X11_routine_X11 lk_X11_routine_1 dX11_routine_39 rfl (fun g5 eg5 => ?_)
      have hV := hV g5 eg5
      refine jj_aload_n (pc2 := 43) hC dX11_routine_42 rfl 0 rfl rfl ?_
      refine rg_5 (pc2 := 46) hC hi_X11_routine_X11 lk_X11_routine_1 dX11_routine_43 rfl ?_
      refine jj_iconst (pc2 := 47) hC 1 dX11_routine_46 (by decide) rfl ?_
      refine jj_isub (pc2 := 48) hC dX11_routine_47 rfl ?_
      exact jj_iret hC dX11_routine_48 hV
    · have hV := hV.2 h3
      refine jj_bipush (pc2 := 21) hC (-3) dX11_routine_19 (by decide) rfl ?_
      exact jj_iret hC dX11_routine_21 hV
  · have hV := hV.2 h2
    refine jj_iconst (pc2 := 9) hC (-1) dX11_routine_8 (by decide) rfl ?_
    exact jj_iret hC dX11_routine_9 hV
abbrev rm_X11_isLine : Room := { frames := 2, cells := 0, slots := 0, locals := 43 }
def vr_isLine (a1 : Int32) (a2 : Int32) (a3 : Int32) (g0 : jm_M) (Post : Int32 → Prop) : Prop := ((a1.toInt < 0 ∨ 8 < a1.toInt) → (Post 0)) ∧ (a1 = 0 → (vr_in a2 (-999) 999 g0 (fun (r2 : Int32) => ((r2 = 0) → (Post 0)) ∧ ((¬ r2 = 0) → (((¬ a3 = 0) → (Post 0)) ∧ ((a3 = 0) → (Post 1))))))) ∧ (a1 = 1 → (vr_in a2 (-999) 999 g0 (fun (r5 : Int32) => ((r5 = 0) → (Post 0)) ∧ ((¬ r5 = 0) → (((¬ a3 = 0) → (Post 0)) ∧ ((a3 = 0) → (Post 1))))))) ∧ (a1 = 2 → (vr_isTable a2 g0 (fun (r8 : Int32) => ((r8 = 0) → (Post 0)) ∧ ((¬ r8 = 0) → (vr_in a3 0 7 g0 (fun (r10 : Int32) => ((r10 = 0) → (Post 0)) ∧ ((¬ r10 = 0) → (Post 1)))))))) ∧ (a1 = 3 → (vr_isTable a2 g0 (fun (r12 : Int32) => ((r12 = 0) → (Post 0)) ∧ ((¬ r12 = 0) → (vr_in a3 0 7 g0 (fun (r14 : Int32) => ((r14 = 0) → (Post 0)) ∧ ((¬ r14 = 0) → (Post 1)))))))) ∧ (a1 = 4 → (vr_isRoutine a2 g0 (fun (r16 : Int32) => ((r16 = 0) → (Post 0)) ∧ ((¬ r16 = 0) → (((¬ a3 = 0) → (Post 0)) ∧ ((a3 = 0) → (Post 1))))))) ∧ (a1 = 5 → (vr_in a2 1 15 g0 (fun (r19 : Int32) => ((r19 = 0) → (Post 0)) ∧ ((¬ r19 = 0) → (((¬ a3 = 0) → (Post 0)) ∧ ((a3 = 0) → (Post 1))))))) ∧ (a1 = 6 → (((¬ a2 = 0) → (Post 0)) ∧ ((a2 = 0) → (((¬ a3 = 0) → (Post 0)) ∧ ((a3 = 0) → (Post 1)))))) ∧ (a1 = 7 → (vr_isTable a2 g0 (fun (r24 : Int32) => ((r24 = 0) → (Post 0)) ∧ ((¬ r24 = 0) → (vr_in a3 0 7 g0 (fun (r26 : Int32) => ((r26 = 0) → (Post 0)) ∧ ((¬ r26 = 0) → (Post 1)))))))) ∧ (a1 = 8 → (vr_isTable a2 g0 (fun (r28 : Int32) => ((r28 = 0) → (Post 0)) ∧ ((¬ r28 = 0) → (vr_in a3 0 7 g0 (fun (r30 : Int32) => ((r30 = 0) → (Post 0)) ∧ ((¬ r30 = 0) → (Post 1))))))))
set_option maxHeartbeats 4000000 in
set_option maxRecDepth 100000 in
theorem cr_isLine (l : Launch) (D : va_G) (cs : Nat → ClassId) (Y X : va_W) (ad : Nat → Nat) (a1 : Int32) (a2 : Int32) (a3 : Int32) (g0 : jm_M) (Post : Int32 → Prop) (hV : vr_isLine a1 a2 a3 g0 Post) : JI (wr_d Y X cs ad) D vwCl (jt_tys cs) l yX11_isLine wsX11_isLine rm_X11_isLine 0 0 [.ref (ad 0), .int a1, .int a2, .int a3] g0 (fun r g2 => Post r ∧ g2 = g0) := by
  refine jj_metI (cc := cX11_isLine) (nL := 4) (ret := (some .boolean)) (by decide) rfl (Nat.le_of_ble_eq_true rfl) [(0, .ref (ad 0)), (1, .int a1), (2, .int a2), (3, .int a3)] rfl ?_
  intro p e s m args below meth c hC hnm
  rw [vr_isLine] at hV
  refine jj_iload_n (pc2 := 1) hC dX11_isLine_0 rfl 1 rfl rfl ?_
  by_cases h1 : a1.toInt < 0 ∨ 8 < a1.toInt
  · have hV := hV.1 h1
    refine jj_tabOut hC 151 dX11_isLine_1 h1 (by decide) ?_
    refine jj_iconst (pc2 := 152) hC 0 dX11_isLine_151 (by decide) rfl ?_
    exact jj_zret hC jj_nb0 dX11_isLine_152 ⟨hV, rfl⟩
  have hV := hV.2
  rcases jj_sw_0_8 a1 h1 with hs | hs | hs | hs | hs | hs | hs | hs | hs
  · have hV := hV.1 hs
    refine jj_tabIn (off := 51) hC 52 dX11_isLine_1 (fun q => h1 (Or.inl q)) (fun q => h1 (Or.inr q)) (by rw [hs]; decide) (by decide) ?_
    refine jj_iload_n (pc2 := 53) hC dX11_isLine_52 rfl 2 rfl rfl ?_
    refine jj_sipush (pc2 := 56) hC (-999) dX11_isLine_53 (by decide) rfl ?_
    refine jj_sipush (pc2 := 59) hC 999 dX11_isLine_56 (by decide) rfl ?_
    refine jj_cSIp (pc2 := 62) (wd := wr_d Y X cs ad) (g := g0) (rest := []) hC (cr_in l D cs Y X ad a2 (-999) 999 g0 _ hV) (va_cwS 3 hC.1.2.2.2.2 gX11_isLine_X11_in rfl rfl rfl (by decide +kernel) ⟨by decide, by decide⟩) rfl (Nat.le_of_ble_eq_true rfl) _ rfl dX11_isLine_59 ⟨Nat.zero_le _, Nat.zero_le _⟩ rfl (fun r2 hV => ?_)
    refine jj_if_eq (pc2 := 65) hC 73 dX11_isLine_62 (by decide) rfl (fun h3 => ?_) (fun h3 => ?_)
    · have hV := hV.1 h3
      refine jj_iconst (pc2 := 74) hC 0 dX11_isLine_73 (by decide) rfl ?_
      exact jj_zret hC jj_nb0 dX11_isLine_74 ⟨hV, rfl⟩
    · have hV := hV.2 h3
      refine jj_iload_n (pc2 := 66) hC dX11_isLine_65 rfl 3 rfl rfl ?_
      refine jj_if_ne (pc2 := 69) hC 73 dX11_isLine_66 (by decide) rfl (fun h4 => ?_) (fun h4 => ?_)
      · have hV := hV.1 h4
        refine jj_iconst (pc2 := 74) hC 0 dX11_isLine_73 (by decide) rfl ?_
        exact jj_zret hC jj_nb0 dX11_isLine_74 ⟨hV, rfl⟩
      · have hV := hV.2 h4
        refine jj_iconst (pc2 := 70) hC 1 dX11_isLine_69 (by decide) rfl ?_
        refine jj_goto hC 74 dX11_isLine_70 (by decide) ?_
        exact jj_zret hC jj_nb1 dX11_isLine_74 ⟨hV, rfl⟩
  · have hV := hV.2.1 hs
    refine jj_tabIn (off := 51) hC 52 dX11_isLine_1 (fun q => h1 (Or.inl q)) (fun q => h1 (Or.inr q)) (by rw [hs]; decide) (by decide) ?_
    refine jj_iload_n (pc2 := 53) hC dX11_isLine_52 rfl 2 rfl rfl ?_
    refine jj_sipush (pc2 := 56) hC (-999) dX11_isLine_53 (by decide) rfl ?_
    refine jj_sipush (pc2 := 59) hC 999 dX11_isLine_56 (by decide) rfl ?_
    refine jj_cSIp (pc2 := 62) (wd := wr_d Y X cs ad) (g := g0) (rest := []) hC (cr_in l D cs Y X ad a2 (-999) 999 g0 _ hV) (va_cwS 3 hC.1.2.2.2.2 gX11_isLine_X11_in rfl rfl rfl (by decide +kernel) ⟨by decide, by decide⟩) rfl (Nat.le_of_ble_eq_true rfl) _ rfl dX11_isLine_59 ⟨Nat.zero_le _, Nat.zero_le _⟩ rfl (fun r5 hV => ?_)
    refine jj_if_eq (pc2 := 65) hC 73 dX11_isLine_62 (by decide) rfl (fun h6 => ?_) (fun h6 => ?_)
    · have hV := hV.1 h6
      refine jj_iconst (pc2 := 74) hC 0 dX11_isLine_73 (by decide) rfl ?_
      exact jj_zret hC jj_nb0 dX11_isLine_74 ⟨hV, rfl⟩
    · have hV := hV.2 h6
      refine jj_iload_n (pc2 := 66) hC dX11_isLine_65 rfl 3 rfl rfl ?_
      refine jj_if_ne (pc2 := 69) hC 73 dX11_isLine_66 (by decide) rfl (fun h7 => ?_) (fun h7 => ?_)
      · have hV := hV.1 h7
        refine jj_iconst (pc2 := 74) hC 0 dX11_isLine_73 (by decide) rfl ?_
        exact jj_zret hC jj_nb0 dX11_isLine_74 ⟨hV, rfl⟩
      · have hV := hV.2 h7
        refine jj_iconst (pc2 := 70) hC 1 dX11_isLine_69 (by decide) rfl ?_
        refine jj_goto hC 74 dX11_isLine_70 (by decide) ?_
        exact jj_zret hC jj_nb1 dX11_isLine_74 ⟨hV, rfl⟩
  · have hV := hV.2.2.1 hs
    refine jj_tabIn (off := 74) hC 75 dX11_isLine_1 (fun q => h1 (Or.inl q)) (fun q => h1 (Or.inr q)) (by rw [hs]; decide) (by decide) ?_
    refine jj_aload_n (pc2 := 76) hC dX11_isLine_75 rfl 0 rfl rfl ?_
    refine jj_iload_n (pc2 := 77) hC dX11_isLine_76 rfl 2 rfl rfl ?_
    refine jj_cVIp (pc2 := 80) (wd := wr_d Y X cs ad) (g := g0) (rest := []) hC (Y.length + 0) (jx_at (V := wr_W cs ad g0) rfl) rfl rfl (cr_isTable l D cs Y X ad a2 g0 _ hV) (cwV 1 hC.1.2.2.2.2 gX11_isLine_X11_isTable rfl rfl rfl (by decide +kernel) ⟨by decide, by decide⟩) rfl (Nat.le_of_ble_eq_true rfl) _ rfl dX11_isLine_77 ⟨Nat.zero_le _, Nat.zero_le _⟩ rfl (fun r8 hV => ?_)
    refine jj_if_eq (pc2 := 83) hC 97 dX11_isLine_80 (by decide) rfl (fun h9 => ?_) (fun h9 => ?_)
    · have hV := hV.1 h9
      refine jj_iconst (pc2 := 98) hC 0 dX11_isLine_97 (by decide) rfl ?_
      exact jj_zret hC jj_nb0 dX11_isLine_98 ⟨hV, rfl⟩
    · have hV := hV.2 h9
      refine jj_iload_n (pc2 := 84) hC dX11_isLine_83 rfl 3 rfl rfl ?_
      refine jj_iconst (pc2 := 85) hC 0 dX11_isLine_84 (by decide) rfl ?_
      refine jj_bipush (pc2 := 87) hC 7 dX11_isLine_85 (by decide) rfl ?_
      refine jj_cSIp (pc2 := 90) (wd := wr_d Y X cs ad) (g := g0) (rest := []) hC (cr_in l D cs Y X ad a3 0 7 g0 _ hV) (va_cwS 3 hC.1.2.2.2.2 gX11_isLine_X11_in rfl rfl rfl (by decide +kernel) ⟨by decide, by decide⟩) rfl (Nat.le_of_ble_eq_true rfl) _ rfl dX11_isLine_87 ⟨Nat.zero_le _, Nat.zero_le _⟩ rfl (fun r10 hV => ?_)
      refine jj_if_eq (pc2 := 93) hC 97 dX11_isLine_90 (by decide) rfl (fun h11 => ?_) (fun h11 => ?_)
      · have hV := hV.1 h11
        refine jj_iconst (pc2 := 98) hC 0 dX11_isLine_97 (by decide) rfl ?_
        exact jj_zret hC jj_nb0 dX11_isLine_98 ⟨hV, rfl⟩
      · have hV := hV.2 h11
        refine jj_iconst (pc2 := 94) hC 1 dX11_isLine_93 (by decide) rfl ?_
        refine jj_goto hC 98 dX11_isLine_94 (by decide) ?_
        exact jj_zret hC jj_nb1 dX11_isLine_98 ⟨hV, rfl⟩
  · have hV := hV.2.2.2.1 hs
    refine jj_tabIn (off := 74) hC 75 dX11_isLine_1 (fun q => h1 (Or.inl q)) (fun q => h1 (Or.inr q)) (by rw [hs]; decide) (by decide) ?_
    refine jj_aload_n (pc2 := 76) hC dX11_isLine_75 rfl 0 rfl rfl ?_
    refine jj_iload_n (pc2 := 77) hC dX11_isLine_76 rfl 2 rfl rfl ?_
    refine jj_cVIp (pc2 := 80) (wd := wr_d Y X cs ad) (g := g0) (rest := []) hC (Y.length + 0) (jx_at (V := wr_W cs ad g0) rfl) rfl rfl (cr_isTable l D cs Y X ad a2 g0 _ hV) (cwV 1 hC.1.2.2.2.2 gX11_isLine_X11_isTable rfl rfl rfl (by decide +kernel) ⟨by decide, by decide⟩) rfl (Nat.le_of_ble_eq_true rfl) _ rfl dX11_isLine_77 ⟨Nat.zero_le _, Nat.zero_le _⟩ rfl (fun r12 hV => ?_)
    refine jj_if_eq (pc2 := 83) hC 97 dX11_isLine_80 (by decide) rfl (fun h13 => ?_) (fun h13 => ?_)
    · have hV := hV.1 h13
      refine jj_iconst (pc2 := 98) hC 0 dX11_isLine_97 (by decide) rfl ?_
      exact jj_zret hC jj_nb0 dX11_isLine_98 ⟨hV, rfl⟩
    · have hV := hV.2 h13
      refine jj_iload_n (pc2 := 84) hC dX11_isLine_83 rfl 3 rfl rfl ?_
      refine jj_iconst (pc2 := 85) hC 0 dX11_isLine_84 (by decide) rfl ?_
      refine jj_bipush (pc2 := 87) hC 7 dX11_isLine_85 (by decide) rfl ?_
      refine jj_cSIp (pc2 := 90) (wd := wr_d Y X cs ad) (g := g0) (rest := []) hC (cr_in l D cs Y X ad a3 0 7 g0 _ hV) (va_cwS 3 hC.1.2.2.2.2 gX11_isLine_X11_in rfl rfl rfl (by decide +kernel) ⟨by decide, by decide⟩) rfl (Nat.le_of_ble_eq_true rfl) _ rfl dX11_isLine_87 ⟨Nat.zero_le _, Nat.zero_le _⟩ rfl (fun r14 hV => ?_)
      refine jj_if_eq (pc2 := 93) hC 97 dX11_isLine_90 (by decide) rfl (fun h15 => ?_) (fun h15 => ?_)
      · have hV := hV.1 h15
        refine jj_iconst (pc2 := 98) hC 0 dX11_isLine_97 (by decide) rfl ?_
        exact jj_zret hC jj_nb0 dX11_isLine_98 ⟨hV, rfl⟩
      · have hV := hV.2 h15
        refine jj_iconst (pc2 := 94) hC 1 dX11_isLine_93 (by decide) rfl ?_
        refine jj_goto hC 98 dX11_isLine_94 (by decide) ?_
        exact jj_zret hC jj_nb1 dX11_isLine_98 ⟨hV, rfl⟩
  · have hV := hV.2.2.2.2.1 hs
    refine jj_tabIn (off := 98) hC 99 dX11_isLine_1 (fun q => h1 (Or.inl q)) (fun q => h1 (Or.inr q)) (by rw [hs]; decide) (by decide) ?_
    refine jj_aload_n (pc2 := 100) hC dX11_isLine_99 rfl 0 rfl rfl ?_
    refine jj_iload_n (pc2 := 101) hC dX11_isLine_100 rfl 2 rfl rfl ?_
    refine jj_cVIp (pc2 := 104) (wd := wr_d Y X cs ad) (g := g0) (rest := []) hC (Y.length + 0) (jx_at (V := wr_W cs ad g0) rfl) rfl rfl (cr_isRoutine l D cs Y X ad a2 g0 _ hV) (cwV 1 hC.1.2.2.2.2 gX11_isLine_X11_isRoutine rfl rfl rfl (by decide +kernel) ⟨by decide, by decide⟩) rfl (Nat.le_of_ble_eq_true rfl) _ rfl dX11_isLine_101 ⟨Nat.zero_le _, Nat.zero_le _⟩ rfl (fun r16 hV => ?_)
    refine jj_if_eq (pc2 := 107) hC 115 dX11_isLine_104 (by decide) rfl (fun h17 => ?_) (fun h17 => ?_)
    · have hV := hV.1 h17
      refine jj_iconst (pc2 := 116) hC 0 dX11_isLine_115 (by decide) rfl ?_
      exact jj_zret hC jj_nb0 dX11_isLine_116 ⟨hV, rfl⟩
    · have hV := hV.2 h17
      refine jj_iload_n (pc2 := 108) hC dX11_isLine_107 rfl 3 rfl rfl ?_
      refine jj_if_ne (pc2 := 111) hC 115 dX11_isLine_108 (by decide) rfl (fun h18 => ?_) (fun h18 => ?_)
      · have hV := hV.1 h18
        refine jj_iconst (pc2 := 116) hC 0 dX11_isLine_115 (by decide) rfl ?_
        exact jj_zret hC jj_nb0 dX11_isLine_116 ⟨hV, rfl⟩
      · have hV := hV.2 h18
        refine jj_iconst (pc2 := 112) hC 1 dX11_isLine_111 (by decide) rfl ?_
        refine jj_goto hC 116 dX11_isLine_112 (by decide) ?_
        exact jj_zret hC jj_nb1 dX11_isLine_116 ⟨hV, rfl⟩
  · have hV := hV.2.2.2.2.2.1 hs
    refine jj_tabIn (off := 116) hC 117 dX11_isLine_1 (fun q => h1 (Or.inl q)) (fun q => h1 (Or.inr q)) (by rw [hs]; decide) (by decide) ?_
    refine jj_iload_n (pc2 := 118) hC dX11_isLine_117 rfl 2 rfl rfl ?_
    refine jj_iconst (pc2 := 119) hC 1 dX11_isLine_118 (by decide) rfl ?_
    refine jj_bipush (pc2 := 121) hC 15 dX11_isLine_119 (by decide) rfl ?_
    refine jj_cSIp (pc2 := 124) (wd := wr_d Y X cs ad) (g := g0) (rest := []) hC (cr_in l D cs Y X ad a2 1 15 g0 _ hV) (va_cwS 3 hC.1.2.2.2.2 gX11_isLine_X11_in rfl rfl rfl (by decide +kernel) ⟨by decide, by decide⟩) rfl (Nat.le_of_ble_eq_true rfl) _ rfl dX11_isLine_121 ⟨Nat.zero_le _, Nat.zero_le _⟩ rfl (fun r19 hV => ?_)
    refine jj_if_eq (pc2 := 127) hC 135 dX11_isLine_124 (by decide) rfl (fun h20 => ?_) (fun h20 => ?_)
    · have hV := hV.1 h20
      refine jj_iconst (pc2 := 136) hC 0 dX11_isLine_135 (by decide) rfl ?_
      exact jj_zret hC jj_nb0 dX11_isLine_136 ⟨hV, rfl⟩
    · have hV := hV.2 h20
      refine jj_iload_n (pc2 := 128) hC dX11_isLine_127 rfl 3 rfl rfl ?_
      refine jj_if_ne (pc2 := 131) hC 135 dX11_isLine_128 (by decide) rfl (fun h21 => ?_) (fun h21 => ?_)
      · have hV := hV.1 h21
        refine jj_iconst (pc2 := 136) hC 0 dX11_isLine_135 (by decide) rfl ?_
        exact jj_zret hC jj_nb0 dX11_isLine_136 ⟨hV, rfl⟩
      · have hV := hV.2 h21
        refine jj_iconst (pc2 := 132) hC 1 dX11_isLine_131 (by decide) rfl ?_
        refine jj_goto hC 136 dX11_isLine_132 (by decide) ?_
        exact jj_zret hC jj_nb1 dX11_isLine_136 ⟨hV, rfl⟩
  · have hV := hV.2.2.2.2.2.2.1 hs
    refine jj_tabIn (off := 136) hC 137 dX11_isLine_1 (fun q => h1 (Or.inl q)) (fun q => h1 (Or.inr q)) (by rw [hs]; decide) (by decide) ?_
    refine jj_iload_n (pc2 := 138) hC dX11_isLine_137 rfl 2 rfl rfl ?_
    refine jj_if_ne (pc2 := 141) hC 149 dX11_isLine_138 (by decide) rfl (fun h22 => ?_) (fun h22 => ?_)
    · have hV := hV.1 h22
      refine jj_iconst (pc2 := 150) hC 0 dX11_isLine_149 (by decide) rfl ?_
      exact jj_zret hC jj_nb0 dX11_isLine_150 ⟨hV, rfl⟩
    · have hV := hV.2 h22
      refine jj_iload_n (pc2 := 142) hC dX11_isLine_141 rfl 3 rfl rfl ?_
      refine jj_if_ne (pc2 := 145) hC 149 dX11_isLine_142 (by decide) rfl (fun h23 => ?_) (fun h23 => ?_)
      · have hV := hV.1 h23
        refine jj_iconst (pc2 := 150) hC 0 dX11_isLine_149 (by decide) rfl ?_
        exact jj_zret hC jj_nb0 dX11_isLine_150 ⟨hV, rfl⟩
      · have hV := hV.2 h23
        refine jj_iconst (pc2 := 146) hC 1 dX11_isLine_145 (by decide) rfl ?_
        refine jj_goto hC 150 dX11_isLine_146 (by decide) ?_
        exact jj_zret hC jj_nb1 dX11_isLine_150 ⟨hV, rfl⟩
  · have hV := hV.2.2.2.2.2.2.2.1 hs
    refine jj_tabIn (off := 74) hC 75 dX11_isLine_1 (fun q => h1 (Or.inl q)) (fun q => h1 (Or.inr q)) (by rw [hs]; decide) (by decide) ?_
    refine jj_aload_n (pc2 := 76) hC dX11_isLine_75 rfl 0 rfl rfl ?_
    refine jj_iload_n (pc2 := 77) hC dX11_isLine_76 rfl 2 rfl rfl ?_
    refine jj_cVIp (pc2 := 80) (wd := wr_d Y X cs ad) (g := g0) (rest := []) hC (Y.length + 0) (jx_at (V := wr_W cs ad g0) rfl) rfl rfl (cr_isTable l D cs Y X ad a2 g0 _ hV) (cwV 1 hC.1.2.2.2.2 gX11_isLine_X11_isTable rfl rfl rfl (by decide +kernel) ⟨by decide, by decide⟩) rfl (Nat.le_of_ble_eq_true rfl) _ rfl dX11_isLine_77 ⟨Nat.zero_le _, Nat.zero_le _⟩ rfl (fun r24 hV => ?_)
    refine jj_if_eq (pc2 := 83) hC 97 dX11_isLine_80 (by decide) rfl (fun h25 => ?_) (fun h25 => ?_)
    · have hV := hV.1 h25
      refine jj_iconst (pc2 := 98) hC 0 dX11_isLine_97 (by decide) rfl ?_
      exact jj_zret hC jj_nb0 dX11_isLine_98 ⟨hV, rfl⟩
    · have hV := hV.2 h25
      refine jj_iload_n (pc2 := 84) hC dX11_isLine_83 rfl 3 rfl rfl ?_
      refine jj_iconst (pc2 := 85) hC 0 dX11_isLine_84 (by decide) rfl ?_
      refine jj_bipush (pc2 := 87) hC 7 dX11_isLine_85 (by decide) rfl ?_
      refine jj_cSIp (pc2 := 90) (wd := wr_d Y X cs ad) (g := g0) (rest := []) hC (cr_in l D cs Y X ad a3 0 7 g0 _ hV) (va_cwS 3 hC.1.2.2.2.2 gX11_isLine_X11_in rfl rfl rfl (by decide +kernel) ⟨by decide, by decide⟩) rfl (Nat.le_of_ble_eq_true rfl) _ rfl dX11_isLine_87 ⟨Nat.zero_le _, Nat.zero_le _⟩ rfl (fun r26 hV => ?_)
      refine jj_if_eq (pc2 := 93) hC 97 dX11_isLine_90 (by decide) rfl (fun h27 => ?_) (fun h27 => ?_)
      · have hV := hV.1 h27
        refine jj_iconst (pc2 := 98) hC 0 dX11_isLine_97 (by decide) rfl ?_
        exact jj_zret hC jj_nb0 dX11_isLine_98 ⟨hV, rfl⟩
      · have hV := hV.2 h27
        refine jj_iconst (pc2 := 94) hC 1 dX11_isLine_93 (by decide) rfl ?_
        refine jj_goto hC 98 dX11_isLine_94 (by decide) ?_
        exact jj_zret hC jj_nb1 dX11_isLine_98 ⟨hV, rfl⟩
  · have hV := hV.2.2.2.2.2.2.2.2 hs
    refine jj_tabIn (off := 74) hC 75 dX11_isLine_1 (fun q => h1 (Or.inl q)) (fun q => h1 (Or.inr q)) (by rw [hs]; decide) (by decide) ?_
    refine jj_aload_n (pc2 := 76) hC dX11_isLine_75 rfl 0 rfl rfl ?_
    refine jj_iload_n (pc2 := 77) hC dX11_isLine_76 rfl 2 rfl rfl ?_
    refine jj_cVIp (pc2 := 80) (wd := wr_d Y X cs ad) (g := g0) (rest := []) hC (Y.length + 0) (jx_at (V := wr_W cs ad g0) rfl) rfl rfl (cr_isTable l D cs Y X ad a2 g0 _ hV) (cwV 1 hC.1.2.2.2.2 gX11_isLine_X11_isTable rfl rfl rfl (by decide +kernel) ⟨by decide, by decide⟩) rfl (Nat.le_of_ble_eq_true rfl) _ rfl dX11_isLine_77 ⟨Nat.zero_le _, Nat.zero_le _⟩ rfl (fun r28 hV => ?_)
    refine jj_if_eq (pc2 := 83) hC 97 dX11_isLine_80 (by decide) rfl (fun h29 => ?_) (fun h29 => ?_)
    · have hV := hV.1 h29
      refine jj_iconst (pc2 := 98) hC 0 dX11_isLine_97 (by decide) rfl ?_
      exact jj_zret hC jj_nb0 dX11_isLine_98 ⟨hV, rfl⟩
    · have hV := hV.2 h29
      refine jj_iload_n (pc2 := 84) hC dX11_isLine_83 rfl 3 rfl rfl ?_
      refine jj_iconst (pc2 := 85) hC 0 dX11_isLine_84 (by decide) rfl ?_
      refine jj_bipush (pc2 := 87) hC 7 dX11_isLine_85 (by decide) rfl ?_
      refine jj_cSIp (pc2 := 90) (wd := wr_d Y X cs ad) (g := g0) (rest := []) hC (cr_in l D cs Y X ad a3 0 7 g0 _ hV) (va_cwS 3 hC.1.2.2.2.2 gX11_isLine_X11_in rfl rfl rfl (by decide +kernel) ⟨by decide, by decide⟩) rfl (Nat.le_of_ble_eq_true rfl) _ rfl dX11_isLine_87 ⟨Nat.zero_le _, Nat.zero_le _⟩ rfl (fun r30 hV => ?_)
      refine jj_if_eq (pc2 := 93) hC 97 dX11_isLine_90 (by decide) rfl (fun h31 => ?_) (fun h31 => ?_)
      · have hV := hV.1 h31
        refine jj_iconst (pc2 := 98) hC 0 dX11_isLine_97 (by decide) rfl ?_
        exact jj_zret hC jj_nb0 dX11_isLine_98 ⟨hV, rfl⟩
      · have hV := hV.2 h31
        refine jj_iconst (pc2 := 94) hC 1 dX11_isLine_93 (by decide) rfl ?_
        refine jj_goto hC 98 dX11_isLine_94 (by decide) ?_
        exact jj_zret hC jj_nb1 dX11_isLine_98 ⟨hV, rfl⟩
theorem hi_X11_line_X11 : ∀ w ∈ u_ws RX11 TX11 63, w ∈ wsX11_line := fun _ h => List.mem_cons_of_mem _ (List.mem_append_right _ h)
theorem lk_X11_line_1 : Cond.fieldLink RX11 19 "PartedHouseModel" "lines" "[I" ∈ wsX11_line := List.mem_of_getElem? (i := 1) rfl
theorem lk_X11_line_4 : Cond.fieldLink RX11 28 "PartedHouseModel" "second" "[I" ∈ wsX11_line := List.mem_of_getElem? (i := 4) rfl
theorem lk_X11_line_3 : Cond.fieldLink RX11 25 "PartedHouseModel" "first" "[I" ∈ wsX11_line := List.mem_of_getElem? (i := 3) rfl
theorem lk_X11_line_2 : Cond.fieldLink RX11 22 "PartedHouseModel" "op" "[I" ∈ wsX11_line := List.mem_of_getElem? (i := 2) rfl
abbrev rm_X11_line : Room := { frames := 3, cells := 0, slots := 0, locals := 66 }
def vr_line (a1 : Int32) (a2 : Int32) (a3 : Int32) (a4 : Int32) (g0 : jm_M) (Post : Int32 → jm_M → Prop) : Prop := vr_isRoutine a1 g0 (fun (r1 : Int32) => ((r1 = 0) → (Post (-1) g0)) ∧ ((¬ r1 = 0) → (vr_isLine a2 a3 a4 g0 (fun (r3 : Int32) => ((¬ r3 = 0) → ((vp_in a1 40) ∧ (((¬ (g0 7 a1.toNatClampNeg) = 16) → ((vp_in a1 40) ∧ (∀ y6 : Int32, y6 = ((16 : Int32) * a1) + (g0 7 a1.toNatClampNeg) → ((vp_in y6 640) ∧ (∀ g7 : jm_M, g7 = jm_a g0 8 y6 a2 → ((vp_in y6 640) ∧ (∀ g8 : jm_M, g8 = jm_a g7 9 y6 a3 → ((vp_in y6 640) ∧ (∀ g9 : jm_M, g9 = jm_a g8 10 y6 a4 → ((vp_in a1 40) ∧ ((vp_in a1 40) ∧ (∀ g10 : jm_M, g10 = jm_a g9 7 a1 ((g9 7 a1.toNatClampNeg) + 1) → ((vp_in a1 40) ∧ (Post ((g10 7 a1.toNatClampNeg) - 1) g10)))))))))))))) ∧ (((g0 7 a1.toNatClampNeg) = 16) → (Post (-3) g0))))) ∧ ((r3 = 0) → (Post (-1) g0))))))
set_option maxHeartbeats 4000000 in
set_option maxRecDepth 100000 in
theorem cr_line (l : Launch) (D : va_G) (cs : Nat → ClassId) (Y X : va_W) (ad : Nat → Nat) (a1 : Int32) (a2 : Int32) (a3 : Int32) (a4 : Int32) (g0 : jm_M) (Post : Int32 → jm_M → Prop) (hV : vr_line a1 a2 a3 a4 g0 Post) : JI (wr_d Y X cs ad) D vwCl (jt_tys cs) l yX11_line wsX11_line rm_X11_line 0 0 [.ref (ad 0), .int a1, .int a2, .int a3, .int a4] g0 Post := by
  refine jj_metI (cc := cX11_line) (nL := 6) (ret := (some .int)) (by decide) rfl (Nat.le_of_ble_eq_true rfl) [(0, .ref (ad 0)), (1, .int a1), (2, .int a2), (3, .int a3), (4, .int a4)] rfl ?_
  intro p e s m args below meth c hC hnm
  rw [vr_line] at hV
  refine jj_aload_n (pc2 := 1) hC dX11_line_0 rfl 0 rfl rfl ?_
  refine jj_iload_n (pc2 := 2) hC dX11_line_1 rfl 1 rfl rfl ?_
  refine jj_cVIp (pc2 := 5) (wd := wr_d Y X cs ad) (g := g0) (rest := []) hC (Y.length + 0) (jx_at (V := wr_W cs ad g0) rfl) rfl rfl (cr_isRoutine l D cs Y X ad a1 g0 _ hV) (cwV 1 hC.1.2.2.2.2 gX11_line_X11_isRoutine rfl rfl rfl (by decide +kernel) ⟨by decide, by decide⟩) rfl (Nat.le_of_ble_eq_true rfl) _ rfl dX11_line_2 ⟨Nat.zero_le _, Nat.zero_le _⟩ rfl (fun r1 hV => ?_)
  refine jj_if_eq (pc2 := 8) hC 19 dX11_line_5 (by decide) rfl (fun h2 => ?_) (fun h2 => ?_)
  · have hV := hV.1 h2
    refine jj_iconst (pc2 := 20) hC (-1) dX11_line_19 (by decide) rfl ?_
    exact jj_iret hC dX11_line_20 hV
  · have hV := hV.2 h2
    refine jj_aload_n (pc2 := 9) hC dX11_line_8 rfl 0 rfl rfl ?_
    refine jj_iload_n (pc2 := 10) hC dX11_line_9 rfl 2 rfl rfl ?_
    refine jj_iload_n (pc2 := 11) hC dX11_line_10 rfl 3 rfl rfl ?_
    refine jj_iload (pc2 := 13) hC dX11_line_11 4 rfl rfl ?_
    refine jj_cVIp (pc2 := 16) (wd := wr_d Y X cs ad) (g := g0) (rest := []) hC (Y.length + 0) (jx_at (V := wr_W cs ad g0) rfl) rfl rfl (cr_isLine l D cs Y X ad a2 a3 a4 g0 _ hV) (cwV 3 hC.1.2.2.2.2 gX11_line_X11_isLine rfl rfl rfl (by decide +kernel) ⟨by decide, by decide⟩) rfl (Nat.le_of_ble_eq_true rfl) _ rfl dX11_line_13 ⟨Nat.zero_le _, Nat.zero_le _⟩ rfl (fun r3 hV => ?_)
    refine jj_if_ne (pc2 := 19) hC 21 dX11_line_16 (by decide) rfl (fun h4 => ?_) (fun h4 => ?_)
    · have hV := hV.1 h4
      refine jj_aload_n (pc2 := 22) hC dX11_line_21 rfl 0 rfl rfl ?_
      refine rg_7 (pc2 := 25) hC hi_X11_line_X11 lk_X11_line_1 dX11_line_22 rfl ?_
      refine jj_iload_n (pc2 := 26) hC dX11_line_25 rfl 1 rfl rfl ?_
      refine ra_7 (pc2 := 27) hC hV.1 dX11_line_26 rfl ?_
      have hV := hV.2
      refine jj_bipush (pc2 := 29) hC 16 dX11_line_27 (by decide) rfl ?_
      refine jj_icmp_ne (pc2 := 32) hC 35 dX11_line_29 (by decide) rfl (fun h5 => ?_) (fun h5 => ?_)
      · have hV := hV.1 h5
        refine jj_bipush (pc2 := 37) hC 16 dX11_line_35 (by decide) rfl ?_
        refine jj_iload_n (pc2 := 38) hC dX11_line_37 rfl 1 rfl rfl ?_
        refine jj_imul (pc2 := 39) hC dX11_line_38 rfl ?_
        refine jj_aload_n (pc2 := 40) hC dX11_line_39 rfl 0 rfl rfl ?_
        refine rg_7 (pc2 := 43) hC hi_X11_line_X11 lk_X11_line_1 dX11_line_40 rfl ?_
        refine jj_iload_n (pc2 := 44) hC dX11_line_43 rfl 1 rfl rfl ?_
        refine ra_7 (pc2 := 45) hC hV.1 dX11_line_44 rfl ?_
        have hV := hV.2
        refine jj_iadd (pc2 := 46) hC dX11_line_45 rfl ?_
        refine jj_topi (fun y6 ey6 => ?_)
        have hV := hV y6 ey6
        refine jj_istore (pc2 := 48) hC [(5, .int y6), (0, .ref (ad 0)), (1, .int a1), (2, .int a2), (3, .int a3), (4, .int a4)] dX11_line_46 (by decide) rfl rfl ?_
        refine jj_aload_n (pc2 := 49) hC dX11_line_48 rfl 1 rfl rfl ?_
        refine rg_8 (pc2 := 52) hC hi_X11_line_X11 lk_X11_line_2 dX11_line_49 rfl ?_
        refine jj_iload (pc2 := 54) hC dX11_line_52 0 rfl rfl ?_
        refine jj_iload_n (pc2 := 55) hC dX11_line_54 rfl 3 rfl rfl ?_
        refine rs_8 (pc2 := 56) hC hV.1 dX11_line_55 rfl (fun g7 eg7 => ?_)
        have hV := hV.2 g7 eg7
        refine jj_aload_n (pc2 := 57) hC dX11_line_56 rfl 1 rfl rfl ?_
        refine rg_9 (pc2 := 60) hC hi_X11_line_X11 lk_X11_line_3 dX11_line_57 rfl ?_
        refine jj_iload (pc2 := 62) hC dX11_line_60 0 rfl rfl ?_
        refine jj_iload_n (pc2 := 63) hC dX11_line_62 rfl 4 rfl rfl ?_
        refine rs_9 (pc2 := 64) hC hV.1 dX11_line_63 rfl (fun g8 eg8 => ?_)
        have hV := hV.2 g8 eg8
        refine jj_aload_n (pc2 := 65) hC dX11_line_64 rfl 1 rfl rfl ?_
        refine rg_10 (pc2 := 68) hC hi_X11_line_X11 lk_X11_line_4 dX11_line_65 rfl ?_
        refine jj_iload (pc2 := 70) hC dX11_line_68 0 rfl rfl ?_
        refine jj_iload (pc2 := 72) hC dX11_line_70 5 rfl rfl ?_
        refine rs_10 (pc2 := 73) hC hV.1 dX11_line_72 rfl (fun g9 eg9 => ?_)
        have hV := hV.2 g9 eg9
        refine jj_aload_n (pc2 := 74) hC dX11_line_73 rfl 1 rfl rfl ?_
        refine rg_7 (pc2 := 77) hC hi_X11_line_X11 lk_X11_line_1 dX11_line_74 rfl ?_
        refine jj_iload_n (pc2 := 78) hC dX11_line_77 rfl 2 rfl rfl ?_
        refine jj_dup2 (pc2 := 79) hC dX11_line_78 rfl rfl rfl ?_
        refine ra_7 (pc2 := 80) hC hV.1 dX11_line_79 rfl ?_
        have hV := hV.2
        refine jj_iconst (pc2 := 81) hC 1 dX11_line_80 (by decide) rfl ?_
        refine jj_iadd (pc2 := 82) hC dX11_line_81 rfl ?_
        refine rs_7 (pc2 := 83) hC hV.1 dX11_line_82 rfl (fun g10 eg10 => ?_)
        have hV := hV.2 g10 eg10
        refine jj_aload_n (pc2 := 84) hC dX11_line_83 rfl 1 rfl rfl ?_
        refine rg_7 (pc2 := 87) hC hi_X11_line_X11 lk_X11_line_1 dX11_line_84 rfl ?_
        refine jj_iload_n (pc2 := 88) hC dX11_line_87 rfl 2 rfl rfl ?_
        refine ra_7 (pc2 := 89) hC hV.1 dX11_line_88 rfl ?_
        have hV := hV.2
        refine jj_iconst (pc2 := 90) hC 1 dX11_line_89 (by decide) rfl ?_
        refine jj_isub (pc2 := 91) hC dX11_line_90 rfl ?_
        exact jj_iret hC dX11_line_91 hV
      · have hV := hV.2 h5
        refine jj_bipush (pc2 := 34) hC (-3) dX11_line_32 (by decide) rfl ?_
        exact jj_iret hC dX11_line_34 hV
    · have hV := hV.2 h4
      refine jj_iconst (pc2 := 20) hC (-1) dX11_line_19 (by decide) rfl ?_
      exact jj_iret hC dX11_line_20 hV
theorem hi_X11_clear_X11 : ∀ w ∈ u_ws RX11 TX11 63, w ∈ wsX11_clear := fun _ h => List.mem_cons_of_mem _ (List.mem_append_right _ h)
theorem lk_X11_clear_1 : Cond.fieldLink RX11 19 "PartedHouseModel" "lines" "[I" ∈ wsX11_clear := List.mem_of_getElem? (i := 1) rfl
abbrev rm_X11_clear : Room := { frames := 2, cells := 0, slots := 0, locals := 43 }
def vr_clear (a1 : Int32) (g0 : jm_M) (Post : Int32 → jm_M → Prop) : Prop := vr_isRoutine a1 g0 (fun (r1 : Int32) => ((¬ r1 = 0) → ((vp_in a1 40) ∧ (∀ y3 : Int32, y3 = g0 7 a1.toNatClampNeg → ((vp_in a1 40) ∧ (∀ g4 : jm_M, g4 = jm_a g0 7 a1 0 → (Post y3 g4)))))) ∧ ((r1 = 0) → (Post (-1) g0)))
set_option maxHeartbeats 4000000 in
set_option maxRecDepth 100000 in
theorem cr_clear (l : Launch) (D : va_G) (cs : Nat → ClassId) (Y X : va_W) (ad : Nat → Nat) (a1 : Int32) (g0 : jm_M) (Post : Int32 → jm_M → Prop) (hV : vr_clear a1 g0 Post) : JI (wr_d Y X cs ad) D vwCl (jt_tys cs) l yX11_clear wsX11_clear rm_X11_clear 0 0 [.ref (ad 0), .int a1] g0 Post := by
  refine jj_metI (cc := cX11_clear) (nL := 3) (ret := (some .int)) (by decide) rfl (Nat.le_of_ble_eq_true rfl) [(0, .ref (ad 0)), (1, .int a1)] rfl ?_
  intro p e s m args below meth c hC hnm
  rw [vr_clear] at hV
  refine jj_aload_n (pc2 := 1) hC dX11_clear_0 rfl 0 rfl rfl ?_
  refine jj_iload_n (pc2 := 2) hC dX11_clear_1 rfl 1 rfl rfl ?_
  refine jj_cVIp (pc2 := 5) (wd := wr_d Y X cs ad) (g := g0) (rest := []) hC (Y.length + 0) (jx_at (V := wr_W cs ad g0) rfl) rfl rfl (cr_isRoutine l D cs Y X ad a1 g0 _ hV) (cwV 1 hC.1.2.2.2.2 gX11_clear_X11_isRoutine rfl rfl rfl (by decide +kernel) ⟨by decide, by decide⟩) rfl (Nat.le_of_ble_eq_true rfl) _ rfl dX11_clear_2 ⟨Nat.zero_le _, Nat.zero_le _⟩ rfl (fun r1 hV => ?_)
  refine jj_if_ne (pc2 := 8) hC 10 dX11_clear_5 (by decide) rfl (fun h2 => ?_) (fun h2 => ?_)
  · have hV := hV.1 h2
    refine jj_aload_n (pc2 := 11) hC dX11_clear_10 rfl 0 rfl rfl ?_
    refine rg_7 (pc2 := 14) hC hi_X11_clear_X11 lk_X11_clear_1 dX11_clear_11 rfl ?_
    refine jj_iload_n (pc2 := 15) hC dX11_clear_14 rfl 1 rfl rfl ?_
    refine ra_7 (pc2 := 16) hC hV.1 dX11_clear_15 rfl ?_
    have hV := hV.2
    refine jj_topi (fun y3 ey3 => ?_)
    have hV := hV y3 ey3
    refine jj_istore_n (pc2 := 17) hC [(2, .int y3), (0, .ref (ad 0)), (1, .int a1)] dX11_clear_16 rfl (by decide) rfl rfl ?_
    refine jj_aload_n (pc2 := 18) hC dX11_clear_17 rfl 1 rfl rfl ?_
    refine rg_7 (pc2 := 21) hC hi_X11_clear_X11 lk_X11_clear_1 dX11_clear_18 rfl ?_
    refine jj_iload_n (pc2 := 22) hC dX11_clear_21 rfl 2 rfl rfl ?_
    refine jj_iconst (pc2 := 23) hC 0 dX11_clear_22 (by decide) rfl ?_
    refine rs_7 (pc2 := 24) hC hV.1 dX11_clear_23 rfl (fun g4 eg4 => ?_)
    have hV := hV.2 g4 eg4
    refine jj_iload_n (pc2 := 25) hC dX11_clear_24 rfl 0 rfl rfl ?_
    exact jj_iret hC dX11_clear_25 hV
  · have hV := hV.2 h2
    refine jj_iconst (pc2 := 9) hC (-1) dX11_clear_8 (by decide) rfl ?_
    exact jj_iret hC dX11_clear_9 hV
theorem hi_X11_does_X11 : ∀ w ∈ u_ws RX11 TX11 63, w ∈ wsX11_does := fun _ h => List.mem_cons_of_mem _ (List.mem_append_right _ h)
theorem lk_X11_does_1 : Cond.fieldLink RX11 177 "PartedHouseModel" "answer" "I" ∈ wsX11_does := List.mem_of_getElem? (i := 1) rfl
theorem lk_X11_does_2 : Cond.fieldLink RX11 37 "PartedHouseModel" "work" "[I" ∈ wsX11_does := List.mem_of_getElem? (i := 2) rfl
theorem lk_X11_does_7 : Cond.fieldLink RX11 43 "PartedHouseModel" "readsNow" "[I" ∈ wsX11_does := List.mem_of_getElem? (i := 7) rfl
theorem lk_X11_does_6 : Cond.fieldLink RX11 174 "PartedHouseModel" "writtenMany" "I" ∈ wsX11_does := List.mem_of_getElem? (i := 6) rfl
theorem lk_X11_does_5 : Cond.fieldLink RX11 49 "PartedHouseModel" "written" "[I" ∈ wsX11_does := List.mem_of_getElem? (i := 5) rfl
theorem lk_X11_does_4 : Cond.fieldLink RX11 52 "PartedHouseModel" "isWritten" "[Z" ∈ wsX11_does := List.mem_of_getElem? (i := 4) rfl
theorem lk_X11_does_3 : Cond.fieldLink RX11 46 "PartedHouseModel" "writesNow" "[I" ∈ wsX11_does := List.mem_of_getElem? (i := 3) rfl
abbrev rm_X11_does : Room := { frames := 0, cells := 0, slots := 0, locals := 0 }
def vr_does (a1 : Int32) (a2 : Int32) (a3 : Int32) (a4 : Int32) (g0 : jm_M) (Post : jm_M → Prop) : Prop := ((¬ a1 = 0) → (((¬ a1 = 1) → (∀ y3 : Int32, y3 = ((8 : Int32) * a3) + a4 → (((¬ a1 = 3) → ((vp_in (((16 : Int32) * a2) + a3) 160) ∧ ((vp_in (((16 : Int32) * a2) + a3) 160) ∧ (∀ g5 : jm_M, g5 = jm_a g0 15 (((16 : Int32) * a2) + a3) ((g0 15 (((16 : Int32) * a2) + a3).toNatClampNeg) + 1) → (((¬ a1 = 2) → (((¬ a1 = 7) → ((vp_in y3 128) ∧ (∀ g8 : jm_M, g8 = jm_s g5 22 ((g5 22 0) - (g5 13 y3.toNatClampNeg)) → (Post g8)))) ∧ ((a1 = 7) → ((vp_in y3 128) ∧ (∀ g9 : jm_M, g9 = jm_s g5 22 ((g5 22 0) + (g5 13 y3.toNatClampNeg)) → (Post g9)))))) ∧ ((a1 = 2) → ((vp_in y3 128) ∧ (∀ g10 : jm_M, g10 = jm_s g5 22 (g5 13 y3.toNatClampNeg) → (Post g10))))))))) ∧ ((a1 = 3) → ((vp_in y3 128) ∧ (∀ g11 : jm_M, g11 = jm_a g0 13 y3 (g0 22 0) → ((vp_in (((16 : Int32) * a2) + a3) 160) ∧ ((vp_in (((16 : Int32) * a2) + a3) 160) ∧ (∀ g12 : jm_M, g12 = jm_a g11 16 (((16 : Int32) * a2) + a3) ((g11 16 (((16 : Int32) * a2) + a3).toNatClampNeg) + 1) → ((vp_in y3 128) ∧ ((((g12 19 y3.toNatClampNeg) = 0) → ((vp_in y3 128) ∧ (∀ g14 : jm_M, g14 = jm_a g12 19 y3 1 → ((vp_in (g14 17 0) 128) ∧ (∀ g15 : jm_M, g15 = jm_a g14 18 (g14 17 0) y3 → (∀ g16 : jm_M, g16 = jm_s g15 17 ((g15 17 0) + 1) → (Post g16))))))) ∧ ((¬ (g12 19 y3.toNatClampNeg) = 0) → (Post g12))))))))))))) ∧ ((a1 = 1) → (∀ g17 : jm_M, g17 = jm_s g0 22 ((g0 22 0) + a3) → (Post g17))))) ∧ ((a1 = 0) → (∀ g18 : jm_M, g18 = jm_s g0 22 a3 → (Post g18)))
set_option maxHeartbeats 4000000 in
set_option maxRecDepth 100000 in
theorem cr_does (l : Launch) (D : va_G) (cs : Nat → ClassId) (Y X : va_W) (ad : Nat → Nat) (a1 : Int32) (a2 : Int32) (a3 : Int32) (a4 : Int32) (g0 : jm_M) (Post : jm_M → Prop) (hV : vr_does a1 a2 a3 a4 g0 Post) : JV (wr_d Y X cs ad) D vwCl (jt_tys cs) l yX11_does wsX11_does rm_X11_does 0 0 [.ref (ad 0), .int a1, .int a2, .int a3, .int a4] g0 Post := by
  refine jj_metV (cc := cX11_does) (nL := 6) (ret := none) (by decide) rfl (Nat.le_of_ble_eq_true rfl) [(0, .ref (ad 0)), (1, .int a1), (2, .int a2), (3, .int a3), (4, .int a4)] rfl ?_
  intro p e s m args below meth c hC hnm
  rw [vr_does] at hV
  refine jj_iload_n (pc2 := 1) hC dX11_does_0 rfl 1 rfl rfl ?_
  refine jj_if_ne (pc2 := 4) hC 10 dX11_does_1 (by decide) rfl (fun h1 => ?_) (fun h1 => ?_)
  · have hV := hV.1 h1
    refine jj_iload_n (pc2 := 11) hC dX11_does_10 rfl 1 rfl rfl ?_
    refine jj_iconst (pc2 := 12) hC 1 dX11_does_11 (by decide) rfl ?_
    refine jj_icmp_ne (pc2 := 15) hC 26 dX11_does_12 (by decide) rfl (fun h2 => ?_) (fun h2 => ?_)
    · have hV := hV.1 h2
      refine jj_bipush (pc2 := 28) hC 8 dX11_does_26 (by decide) rfl ?_
      refine jj_iload_n (pc2 := 29) hC dX11_does_28 rfl 3 rfl rfl ?_
      refine jj_imul (pc2 := 30) hC dX11_does_29 rfl ?_
      refine jj_iload (pc2 := 32) hC dX11_does_30 4 rfl rfl ?_
      refine jj_iadd (pc2 := 33) hC dX11_does_32 rfl ?_
      refine jj_topi (fun y3 ey3 => ?_)
      have hV := hV y3 ey3
      refine jj_istore (pc2 := 35) hC [(5, .int y3), (0, .ref (ad 0)), (1, .int a1), (2, .int a2), (3, .int a3), (4, .int a4)] dX11_does_33 (by decide) rfl rfl ?_
      refine jj_iload_n (pc2 := 36) hC dX11_does_35 rfl 2 rfl rfl ?_
      refine jj_iconst (pc2 := 37) hC 3 dX11_does_36 (by decide) rfl ?_
      refine jj_icmp_ne (pc2 := 40) hC 107 dX11_does_37 (by decide) rfl (fun h4 => ?_) (fun h4 => ?_)
      · have hV := hV.1 h4
        refine jj_aload_n (pc2 := 108) hC dX11_does_107 rfl 1 rfl rfl ?_
        refine rg_15 (pc2 := 111) hC hi_X11_does_X11 lk_X11_does_7 dX11_does_108 rfl ?_
        refine jj_bipush (pc2 := 113) hC 16 dX11_does_111 (by decide) rfl ?_
        refine jj_iload_n (pc2 := 114) hC dX11_does_113 rfl 3 rfl rfl ?_
        refine jj_imul (pc2 := 115) hC dX11_does_114 rfl ?_
        refine jj_iload_n (pc2 := 116) hC dX11_does_115 rfl 4 rfl rfl ?_
        refine jj_iadd (pc2 := 117) hC dX11_does_116 rfl ?_
        refine jj_dup2 (pc2 := 118) hC dX11_does_117 rfl rfl rfl ?_
        refine ra_15 (pc2 := 119) hC hV.1 dX11_does_118 rfl ?_
        have hV := hV.2
        refine jj_iconst (pc2 := 120) hC 1 dX11_does_119 (by decide) rfl ?_
        refine jj_iadd (pc2 := 121) hC dX11_does_120 rfl ?_
        refine rs_15 (pc2 := 122) hC hV.1 dX11_does_121 rfl (fun g5 eg5 => ?_)
        have hV := hV.2 g5 eg5
        refine jj_aload_n (pc2 := 123) hC dX11_does_122 rfl 1 rfl rfl ?_
        refine jj_iload_n (pc2 := 124) hC dX11_does_123 rfl 2 rfl rfl ?_
        refine jj_iconst (pc2 := 125) hC 2 dX11_does_124 (by decide) rfl ?_
        refine jj_icmp_ne (pc2 := 128) hC 138 dX11_does_125 (by decide) rfl (fun h6 => ?_) (fun h6 => ?_)
        · have hV := hV.1 h6
          refine jj_iload_n (pc2 := 139) hC dX11_does_138 rfl 2 rfl rfl ?_
          refine jj_bipush (pc2 := 141) hC 7 dX11_does_139 (by decide) rfl ?_
          refine jj_icmp_ne (pc2 := 144) hC 159 dX11_does_141 (by decide) rfl (fun h7 => ?_) (fun h7 => ?_)
          · have hV := hV.1 h7
            refine jj_aload_n (pc2 := 160) hC dX11_does_159 rfl 1 rfl rfl ?_
            refine rg_22 (pc2 := 163) hC hi_X11_does_X11 lk_X11_does_1 dX11_does_160 rfl ?_
            refine jj_aload_n (pc2 := 164) hC dX11_does_163 rfl 1 rfl rfl ?_
            refine rg_13 (pc2 := 167) hC hi_X11_does_X11 lk_X11_does_2 dX11_does_164 rfl ?_
            refine jj_iload (pc2 := 169) hC dX11_does_167 0 rfl rfl ?_
            refine ra_13 (pc2 := 170) hC hV.1 dX11_does_169 rfl ?_
            have hV := hV.2
            refine jj_isub (pc2 := 171) hC dX11_does_170 rfl ?_
            refine rp_22 (pc2 := 174) hC hi_X11_does_X11 lk_X11_does_1 dX11_does_171 rfl (fun g8 eg8 => ?_)
            have hV := hV g8 eg8
            exact jj_vret hC dX11_does_174 hV
          · have hV := hV.2 h7
            refine jj_aload_n (pc2 := 145) hC dX11_does_144 rfl 1 rfl rfl ?_
            refine rg_22 (pc2 := 148) hC hi_X11_does_X11 lk_X11_does_1 dX11_does_145 rfl ?_
            refine jj_aload_n (pc2 := 149) hC dX11_does_148 rfl 1 rfl rfl ?_
            refine rg_13 (pc2 := 152) hC hi_X11_does_X11 lk_X11_does_2 dX11_does_149 rfl ?_
            refine jj_iload (pc2 := 154) hC dX11_does_152 0 rfl rfl ?_
            refine ra_13 (pc2 := 155) hC hV.1 dX11_does_154 rfl ?_
            have hV := hV.2
            refine jj_iadd (pc2 := 156) hC dX11_does_155 rfl ?_
            refine jj_goto hC 171 dX11_does_156 (by decide) ?_
            refine rp_22 (pc2 := 174) hC hi_X11_does_X11 lk_X11_does_1 dX11_does_171 rfl (fun g9 eg9 => ?_)
            have hV := hV g9 eg9
            exact jj_vret hC dX11_does_174 hV
        · have hV := hV.2 h6
          refine jj_aload_n (pc2 := 129) hC dX11_does_128 rfl 1 rfl rfl ?_
          refine rg_13 (pc2 := 132) hC hi_X11_does_X11 lk_X11_does_2 dX11_does_129 rfl ?_
          refine jj_iload (pc2 := 134) hC dX11_does_132 0 rfl rfl ?_
          refine ra_13 (pc2 := 135) hC hV.1 dX11_does_134 rfl ?_
          have hV := hV.2
          refine jj_goto hC 171 dX11_does_135 (by decide) ?_
          refine rp_22 (pc2 := 174) hC hi_X11_does_X11 lk_X11_does_1 dX11_does_171 rfl (fun g10 eg10 => ?_)
          have hV := hV g10 eg10
          exact jj_vret hC dX11_does_174 hV
      · have hV := hV.2 h4
        refine jj_aload_n (pc2 := 41) hC dX11_does_40 rfl 1 rfl rfl ?_
        refine rg_13 (pc2 := 44) hC hi_X11_does_X11 lk_X11_does_2 dX11_does_41 rfl ?_
        refine jj_iload (pc2 := 46) hC dX11_does_44 0 rfl rfl ?_
        refine jj_aload_n (pc2 := 47) hC dX11_does_46 rfl 1 rfl rfl ?_
        refine rg_22 (pc2 := 50) hC hi_X11_does_X11 lk_X11_does_1 dX11_does_47 rfl ?_
        refine rs_13 (pc2 := 51) hC hV.1 dX11_does_50 rfl (fun g11 eg11 => ?_)
        have hV := hV.2 g11 eg11
        refine jj_aload_n (pc2 := 52) hC dX11_does_51 rfl 1 rfl rfl ?_
        refine rg_16 (pc2 := 55) hC hi_X11_does_X11 lk_X11_does_3 dX11_does_52 rfl ?_
        refine jj_bipush (pc2 := 57) hC 16 dX11_does_55 (by decide) rfl ?_
        refine jj_iload_n (pc2 := 58) hC dX11_does_57 rfl 3 rfl rfl ?_
        refine jj_imul (pc2 := 59) hC dX11_does_58 rfl ?_
        refine jj_iload_n (pc2 := 60) hC dX11_does_59 rfl 4 rfl rfl ?_
        refine jj_iadd (pc2 := 61) hC dX11_does_60 rfl ?_
        refine jj_dup2 (pc2 := 62) hC dX11_does_61 rfl rfl rfl ?_
        refine ra_16 (pc2 := 63) hC hV.1 dX11_does_62 rfl ?_
        have hV := hV.2
        refine jj_iconst (pc2 := 64) hC 1 dX11_does_63 (by decide) rfl ?_
        refine jj_iadd (pc2 := 65) hC dX11_does_64 rfl ?_
        refine rs_16 (pc2 := 66) hC hV.1 dX11_does_65 rfl (fun g12 eg12 => ?_)
        have hV := hV.2 g12 eg12
        refine jj_aload_n (pc2 := 67) hC dX11_does_66 rfl 1 rfl rfl ?_
        refine rg_19 (pc2 := 70) hC hi_X11_does_X11 lk_X11_does_4 dX11_does_67 rfl ?_
        refine jj_iload (pc2 := 72) hC dX11_does_70 0 rfl rfl ?_
        refine ra_19 (pc2 := 73) hC hV.1 dX11_does_72 rfl ?_
        have hV := hV.2
        refine jj_if_eq (pc2 := 76) hC 77 dX11_does_73 (by decide) rfl (fun h13 => ?_) (fun h13 => ?_)
        · have hV := hV.1 h13
          refine jj_aload_n (pc2 := 78) hC dX11_does_77 rfl 1 rfl rfl ?_
          refine rg_19 (pc2 := 81) hC hi_X11_does_X11 lk_X11_does_4 dX11_does_78 rfl ?_
          refine jj_iload (pc2 := 83) hC dX11_does_81 0 rfl rfl ?_
          refine jj_iconst (pc2 := 84) hC 1 dX11_does_83 (by decide) rfl ?_
          refine rs_19 (pc2 := 85) hC hV.1 jj_nb1 dX11_does_84 rfl (fun g14 eg14 => ?_)
          have hV := hV.2 g14 eg14
          refine jj_aload_n (pc2 := 86) hC dX11_does_85 rfl 1 rfl rfl ?_
          refine rg_18 (pc2 := 89) hC hi_X11_does_X11 lk_X11_does_5 dX11_does_86 rfl ?_
          refine jj_aload_n (pc2 := 90) hC dX11_does_89 rfl 1 rfl rfl ?_
          refine rg_17 (pc2 := 93) hC hi_X11_does_X11 lk_X11_does_6 dX11_does_90 rfl ?_
          refine jj_iload (pc2 := 95) hC dX11_does_93 0 rfl rfl ?_
          refine rs_18 (pc2 := 96) hC hV.1 dX11_does_95 rfl (fun g15 eg15 => ?_)
          have hV := hV.2 g15 eg15
          refine jj_aload_n (pc2 := 97) hC dX11_does_96 rfl 1 rfl rfl ?_
          refine jj_dup (pc2 := 98) hC dX11_does_97 rfl rfl ?_
          refine rg_17 (pc2 := 101) hC hi_X11_does_X11 lk_X11_does_6 dX11_does_98 rfl ?_
          refine jj_iconst (pc2 := 102) hC 1 dX11_does_101 (by decide) rfl ?_
          refine jj_iadd (pc2 := 103) hC dX11_does_102 rfl ?_
          refine rp_17 (pc2 := 106) hC hi_X11_does_X11 lk_X11_does_6 dX11_does_103 rfl (fun g16 eg16 => ?_)
          have hV := hV g16 eg16
          exact jj_vret hC dX11_does_106 hV
        · have hV := hV.2 h13
          exact jj_vret hC dX11_does_76 hV
    · have hV := hV.2 h2
      refine jj_aload_n (pc2 := 16) hC dX11_does_15 rfl 0 rfl rfl ?_
      refine jj_dup (pc2 := 17) hC dX11_does_16 rfl rfl ?_
      refine rg_22 (pc2 := 20) hC hi_X11_does_X11 lk_X11_does_1 dX11_does_17 rfl ?_
      refine jj_iload_n (pc2 := 21) hC dX11_does_20 rfl 3 rfl rfl ?_
      refine jj_iadd (pc2 := 22) hC dX11_does_21 rfl ?_
      refine rp_22 (pc2 := 25) hC hi_X11_does_X11 lk_X11_does_1 dX11_does_22 rfl (fun g17 eg17 => ?_)
      have hV := hV g17 eg17
      exact jj_vret hC dX11_does_25 hV
  · have hV := hV.2 h1
    refine jj_aload_n (pc2 := 5) hC dX11_does_4 rfl 0 rfl rfl ?_
    refine jj_iload_n (pc2 := 6) hC dX11_does_5 rfl 3 rfl rfl ?_
    refine rp_22 (pc2 := 9) hC hi_X11_does_X11 lk_X11_does_1 dX11_does_6 rfl (fun g18 eg18 => ?_)
    have hV := hV g18 eg18
    exact jj_vret hC dX11_does_9 hV
theorem hi_X11_works_X11 : ∀ w ∈ u_ws RX11 TX11 63, w ∈ wsX11_works := fun _ h => List.mem_cons_of_mem _ (List.mem_append_right _ h)
theorem lk_X11_works_2 : Cond.fieldLink RX11 52 "PartedHouseModel" "isWritten" "[Z" ∈ wsX11_works := List.mem_of_getElem? (i := 2) rfl
theorem lk_X11_works_1 : Cond.fieldLink RX11 37 "PartedHouseModel" "work" "[I" ∈ wsX11_works := List.mem_of_getElem? (i := 1) rfl
theorem lk_X11_works_3 : Cond.fieldLink RX11 40 "PartedHouseModel" "callsNow" "[I" ∈ wsX11_works := List.mem_of_getElem? (i := 3) rfl
theorem lk_X11_works_5 : Cond.fieldLink RX11 46 "PartedHouseModel" "writesNow" "[I" ∈ wsX11_works := List.mem_of_getElem? (i := 5) rfl
theorem lk_X11_works_4 : Cond.fieldLink RX11 43 "PartedHouseModel" "readsNow" "[I" ∈ wsX11_works := List.mem_of_getElem? (i := 4) rfl
theorem lk_X11_works_14 : Cond.fieldLink RX11 28 "PartedHouseModel" "second" "[I" ∈ wsX11_works := List.mem_of_getElem? (i := 14) rfl
theorem lk_X11_works_13 : Cond.fieldLink RX11 22 "PartedHouseModel" "op" "[I" ∈ wsX11_works := List.mem_of_getElem? (i := 13) rfl
theorem lk_X11_works_7 : Cond.fieldLink RX11 177 "PartedHouseModel" "answer" "I" ∈ wsX11_works := List.mem_of_getElem? (i := 7) rfl
theorem lk_X11_works_9 : Cond.fieldLink RX11 59 "PartedHouseModel" "openLine" "[I" ∈ wsX11_works := List.mem_of_getElem? (i := 9) rfl
theorem lk_X11_works_8 : Cond.fieldLink RX11 56 "PartedHouseModel" "openRoutine" "[I" ∈ wsX11_works := List.mem_of_getElem? (i := 8) rfl
theorem lk_X11_works_12 : Cond.fieldLink RX11 16 "PartedHouseModel" "moduleOf" "[I" ∈ wsX11_works := List.mem_of_getElem? (i := 12) rfl
theorem lk_X11_works_11 : Cond.fieldLink RX11 25 "PartedHouseModel" "first" "[I" ∈ wsX11_works := List.mem_of_getElem? (i := 11) rfl
theorem lk_X11_works_10 : Cond.fieldLink RX11 19 "PartedHouseModel" "lines" "[I" ∈ wsX11_works := List.mem_of_getElem? (i := 10) rfl
theorem lk_X11_works_6 : Cond.fieldLink RX11 174 "PartedHouseModel" "writtenMany" "I" ∈ wsX11_works := List.mem_of_getElem? (i := 6) rfl
abbrev rm_X11_works : Room := { frames := 1, cells := 0, slots := 0, locals := 25 }
def vr_works_3 (kk : Nat) (x1 : Int32) (x2 : Int32) (K36 : jm_M → Prop) (Post : Int32 → jm_M → Prop) : Nat → Int32 → jm_M → Prop
  | 0, _, _ => False
  | f + 1, x4, g => ((128 ≤ x4) → (K36 g)) ∧ ((¬ 128 ≤ x4) → ((vp_in x4 128) ∧ ((vp_in x4 128) ∧ (∀ g2 : jm_M, g2 = jm_a g 13 x4 (g kk x4.toNatClampNeg) → ((vp_in x4 128) ∧ (∀ g3 : jm_M, g3 = jm_a g2 19 x4 0 → (vr_works_3 kk x1 x2 K36 Post f (x4 + 1) g3)))))))
def vr_works_39 (kk : Nat) (x1 : Int32) (x2 : Int32) (K60 : jm_M → Prop) (Post : Int32 → jm_M → Prop) : Nat → Int32 → jm_M → Prop
  | 0, _, _ => False
  | f + 1, x4, g => ((100 ≤ x4) → (K60 g)) ∧ ((¬ 100 ≤ x4) → ((vp_in x4 100) ∧ (∀ g6 : jm_M, g6 = jm_a g 14 x4 0 → (vr_works_39 kk x1 x2 K60 Post f (x4 + 1) g6))))
def vr_works_63 (kk : Nat) (x1 : Int32) (x2 : Int32) (K93 : jm_M → Prop) (Post : Int32 → jm_M → Prop) : Nat → Int32 → jm_M → Prop
  | 0, _, _ => False
  | f + 1, x4, g => ((160 ≤ x4) → (K93 g)) ∧ ((¬ 160 ≤ x4) → ((vp_in x4 160) ∧ (∀ g9 : jm_M, g9 = jm_a g 15 x4 0 → ((vp_in x4 160) ∧ (∀ g10 : jm_M, g10 = jm_a g9 16 x4 0 → (vr_works_63 kk x1 x2 K93 Post f (x4 + 1) g10))))))
def vr_works_123 (kk : Nat) (Post : Int32 → jm_M → Prop) : Nat → Int32 → Int32 → jm_M → Prop
  | 0, _, _, _ => False
  | f + 1, x4, x5, g => ((x4 ≤ 0) → (Post 1 g)) ∧ ((¬ x4 ≤ 0) → ((vp_in (x4 - 1) 8) ∧ (∀ y17 : Int32, y17 = g 20 (x4 - 1).toNatClampNeg → ((vp_in (x4 - 1) 8) ∧ ((vp_in y17 40) ∧ ((((g 21 (x4 - 1).toNatClampNeg) < (g 7 y17.toNatClampNeg)) → (((¬ x5 = 300) → ((vp_in (x4 - 1) 8) ∧ (∀ y20 : Int32, y20 = ((16 : Int32) * y17) + (g 21 (x4 - 1).toNatClampNeg) → ((vp_in (x4 - 1) 8) ∧ ((vp_in (x4 - 1) 8) ∧ (∀ g21 : jm_M, g21 = jm_a g 21 (x4 - 1) ((g 21 (x4 - 1).toNatClampNeg) + 1) → ((vp_in y20 640) ∧ (∀ y22 : Int32, y22 = g21 9 y20.toNatClampNeg → ((vp_in y17 40) ∧ (∀ y23 : Int32, y23 = g21 6 y17.toNatClampNeg → ((vp_in y20 640) ∧ (((¬ (g21 8 y20.toNatClampNeg) = 4) → ((vp_in y20 640) ∧ (((¬ (g21 8 y20.toNatClampNeg) = 5) → ((vp_in y20 640) ∧ (((¬ (g21 8 y20.toNatClampNeg) = 6) → ((vp_in y20 640) ∧ ((vp_in y20 640) ∧ (vr_does (g21 8 y20.toNatClampNeg) y23 y22 (g21 10 y20.toNatClampNeg) g21 (fun (g28 : jm_M) => vr_works_123 kk Post f x4 (x5 + 1) g28))))) ∧ (((g21 8 y20.toNatClampNeg) = 6) → (((0 ≤ (g21 22 0)) → (vr_works_123 kk Post f x4 (x5 + 1) g21)) ∧ ((¬ 0 ≤ (g21 22 0)) → (Post 0 g21))))))) ∧ (((g21 8 y20.toNatClampNeg) = 5) → ((vp_in (x4 - 1) 8) ∧ (((¬ (g21 22 0) = 0) → ((vp_in (x4 - 1) 8) ∧ (∀ g31 : jm_M, g31 = jm_a g21 21 (x4 - 1) ((g21 21 (x4 - 1).toNatClampNeg) + 0) → (vr_works_123 kk Post f x4 (x5 + 1) g31)))) ∧ (((g21 22 0) = 0) → ((vp_in (x4 - 1) 8) ∧ (∀ g32 : jm_M, g32 = jm_a g21 21 (x4 - 1) ((g21 21 (x4 - 1).toNatClampNeg) + y22) → (vr_works_123 kk Post f x4 (x5 + 1) g32)))))))))) ∧ (((g21 8 y20.toNatClampNeg) = 4) → (((¬ x4 = 8) → ((vp_in y22 40) ∧ ((vp_in (((10 : Int32) * y23) + (g21 6 y22.toNatClampNeg)) 100) ∧ ((vp_in (((10 : Int32) * y23) + (g21 6 y22.toNatClampNeg)) 100) ∧ (∀ g34 : jm_M, g34 = jm_a g21 14 (((10 : Int32) * y23) + (g21 6 y22.toNatClampNeg)) ((g21 14 (((10 : Int32) * y23) + (g21 6 y22.toNatClampNeg)).toNatClampNeg) + 1) → ((vp_in x4 8) ∧ (∀ g35 : jm_M, g35 = jm_a g34 20 x4 y22 → ((vp_in x4 8) ∧ (∀ g36 : jm_M, g36 = jm_a g35 21 x4 0 → (vr_works_123 kk Post f (x4 + 1) (x5 + 1) g36)))))))))) ∧ ((x4 = 8) → (Post 0 g21)))))))))))))))) ∧ ((x5 = 300) → (Post 0 g)))) ∧ ((¬ (g 21 (x4 - 1).toNatClampNeg) < (g 7 y17.toNatClampNeg)) → (vr_works_123 kk Post f (x4 + (-1)) x5 g))))))))
def vr_works (kk : Nat) (a1 : Int32) (a2 : Int32) (g0 : jm_M) (Post : Int32 → jm_M → Prop) : Prop := ∃ n40 : Nat, vr_works_3 kk a1 a2 (fun (g4 : jm_M) => ∃ n39 : Nat, vr_works_39 kk a1 a2 (fun (g7 : jm_M) => ∃ n38 : Nat, vr_works_63 kk a1 a2 (fun (g11 : jm_M) => ∀ g12 : jm_M, g12 = jm_s g11 17 0 → (∀ g13 : jm_M, g13 = jm_s g12 22 a2 → (∀ g14 : jm_M, g14 = jm_a g13 20 0 a1 → (∀ g15 : jm_M, g15 = jm_a g14 21 0 0 → (∃ n37 : Nat, vr_works_123 kk Post n37 1 0 g15))))) Post n38 0 g7) Post n39 0 g4) Post n40 0 g0
set_option maxHeartbeats 4000000 in
set_option maxRecDepth 100000 in
theorem ar_works_11_3 {p : Program} {l : Launch} {e : Env} {s : State} {m : MethodId} {args : Array Value} {below : List Frame} {meth : Method} {c : Code} {D : va_G} {cs : Nat → ClassId} {Y X : va_W} {ad : Nat → Nat} {g0 : jm_M} (hC : JC p s m args meth c D vwCl (va_A (wr_d Y X cs ad g0) s.heap.size) 10 cX11_works (some .boolean) wsX11_works RX11 (jt_tys cs)) (x1 : Int32) (x2 : Int32) (Post : Int32 → jm_M → Prop) (K36 : jm_M → Prop) (hK36 : ∀ (g : jm_M) , K36 g → JJ (wr_d Y X cs ad) p l e rm_X11_works s m args below meth c D vwCl (va_A (wr_d Y X cs ad g0) s.heap.size) 10 0 0 (MQ below (jj_QI (wr_d Y X cs ad) D vwCl (jt_tys cs) g0 s.heap.size Post) args s 0 0 (va_A (wr_d Y X cs ad g0) s.heap.size)) 36 [(0, .ref (ad 0)), (1, .int x1), (2, .int x2)] [] g) : ∀ (f : Nat) (x4 : Int32) (g : jm_M), vr_works_3 11 x1 x2 K36 Post f x4 g → JJ (wr_d Y X cs ad) p l e rm_X11_works s m args below meth c D vwCl (va_A (wr_d Y X cs ad g0) s.heap.size) 10 0 0 (MQ below (jj_QI (wr_d Y X cs ad) D vwCl (jt_tys cs) g0 s.heap.size Post) args s 0 0 (va_A (wr_d Y X cs ad g0) s.heap.size)) 3 [(0, .ref (ad 0)), (1, .int x1), (2, .int x2), (3, .ref (ad 12)), (4, .int x4)] [] g := by
  intro f
  induction f with
  | zero => intro x4 g hV; exact hV.elim
  | succ f ih =>
    intro x4 g hV
    rw [vr_works_3] at hV
    refine jj_iload (pc2 := 5) hC dX11_works_3 4 rfl rfl ?_
    refine jj_sipush (pc2 := 8) hC 128 dX11_works_5 (by decide) rfl ?_
    refine jj_icmp_ge (pc2 := 11) hC 36 dX11_works_8 (by decide) rfl (fun h1 => ?_) (fun h1 => ?_)
    · have hV := hV.1 h1
      exact jj_sub (lv2 := [(0, .ref (ad 0)), (1, .int x1), (2, .int x2)]) [0, 1, 2] rfl (hK36 g hV)
    · have hV := hV.2 h1
      refine jj_aload_n (pc2 := 12) hC dX11_works_11 rfl 0 rfl rfl ?_
      refine rg_13 (pc2 := 15) hC hi_X11_works_X11 lk_X11_works_1 dX11_works_12 rfl ?_
      refine jj_iload (pc2 := 17) hC dX11_works_15 4 rfl rfl ?_
      refine jj_aload_n (pc2 := 18) hC dX11_works_17 rfl 3 rfl rfl ?_
      refine jj_iload (pc2 := 20) hC dX11_works_18 4 rfl rfl ?_
      refine ra_11 (pc2 := 21) hC hV.1 dX11_works_20 rfl ?_
      have hV := hV.2
      refine rs_13 (pc2 := 22) hC hV.1 dX11_works_21 rfl (fun g2 eg2 => ?_)
      have hV := hV.2 g2 eg2
      refine jj_aload_n (pc2 := 23) hC dX11_works_22 rfl 0 rfl rfl ?_
      refine rg_19 (pc2 := 26) hC hi_X11_works_X11 lk_X11_works_2 dX11_works_23 rfl ?_
      refine jj_iload (pc2 := 28) hC dX11_works_26 4 rfl rfl ?_
      refine jj_iconst (pc2 := 29) hC 0 dX11_works_28 (by decide) rfl ?_
      refine rs_19 (pc2 := 30) hC hV.1 jj_nb0 dX11_works_29 rfl (fun g3 eg3 => ?_)
      have hV := hV.2 g3 eg3
      refine jj_iinc (pc2 := 33) hC (x4 + 1) [(4, .int (x4 + 1)), (0, .ref (ad 0)), (1, .int x1), (2, .int x2), (3, .ref (ad 12))] dX11_works_30 4 rfl rfl (by decide) rfl rfl ?_
      refine jj_goto hC 3 dX11_works_33 (by decide) ?_
      exact jj_sub (lv2 := [(0, .ref (ad 0)), (1, .int x1), (2, .int x2), (3, .ref (ad 12)), (4, .int (x4 + 1))]) [1, 2, 3, 4, 0] rfl (ih (x4 + 1) g3 hV)
set_option maxHeartbeats 4000000 in
set_option maxRecDepth 100000 in
theorem ar_works_11_39 {p : Program} {l : Launch} {e : Env} {s : State} {m : MethodId} {args : Array Value} {below : List Frame} {meth : Method} {c : Code} {D : va_G} {cs : Nat → ClassId} {Y X : va_W} {ad : Nat → Nat} {g0 : jm_M} (hC : JC p s m args meth c D vwCl (va_A (wr_d Y X cs ad g0) s.heap.size) 10 cX11_works (some .boolean) wsX11_works RX11 (jt_tys cs)) (x1 : Int32) (x2 : Int32) (Post : Int32 → jm_M → Prop) (K60 : jm_M → Prop) (hK60 : ∀ (g : jm_M) , K60 g → JJ (wr_d Y X cs ad) p l e rm_X11_works s m args below meth c D vwCl (va_A (wr_d Y X cs ad g0) s.heap.size) 10 0 0 (MQ below (jj_QI (wr_d Y X cs ad) D vwCl (jt_tys cs) g0 s.heap.size Post) args s 0 0 (va_A (wr_d Y X cs ad g0) s.heap.size)) 60 [(0, .ref (ad 0)), (1, .int x1), (2, .int x2)] [] g) : ∀ (f : Nat) (x4 : Int32) (g : jm_M), vr_works_39 11 x1 x2 K60 Post f x4 g → JJ (wr_d Y X cs ad) p l e rm_X11_works s m args below meth c D vwCl (va_A (wr_d Y X cs ad g0) s.heap.size) 10 0 0 (MQ below (jj_QI (wr_d Y X cs ad) D vwCl (jt_tys cs) g0 s.heap.size Post) args s 0 0 (va_A (wr_d Y X cs ad g0) s.heap.size)) 39 [(0, .ref (ad 0)), (1, .int x1), (2, .int x2), (4, .int x4)] [] g := by
  intro f
  induction f with
  | zero => intro x4 g hV; exact hV.elim
  | succ f ih =>
    intro x4 g hV
    rw [vr_works_39] at hV
    refine jj_iload (pc2 := 41) hC dX11_works_39 3 rfl rfl ?_
    refine jj_bipush (pc2 := 43) hC 100 dX11_works_41 (by decide) rfl ?_
    refine jj_icmp_ge (pc2 := 46) hC 60 dX11_works_43 (by decide) rfl (fun h5 => ?_) (fun h5 => ?_)
    · have hV := hV.1 h5
      exact jj_sub (lv2 := [(0, .ref (ad 0)), (1, .int x1), (2, .int x2)]) [0, 1, 2] rfl (hK60 g hV)
    · have hV := hV.2 h5
      refine jj_aload_n (pc2 := 47) hC dX11_works_46 rfl 0 rfl rfl ?_
      refine rg_14 (pc2 := 50) hC hi_X11_works_X11 lk_X11_works_3 dX11_works_47 rfl ?_
      refine jj_iload (pc2 := 52) hC dX11_works_50 3 rfl rfl ?_
      refine jj_iconst (pc2 := 53) hC 0 dX11_works_52 (by decide) rfl ?_
      refine rs_14 (pc2 := 54) hC hV.1 dX11_works_53 rfl (fun g6 eg6 => ?_)
      have hV := hV.2 g6 eg6
      refine jj_iinc (pc2 := 57) hC (x4 + 1) [(4, .int (x4 + 1)), (0, .ref (ad 0)), (1, .int x1), (2, .int x2)] dX11_works_54 3 rfl rfl (by decide) rfl rfl ?_
      refine jj_goto hC 39 dX11_works_57 (by decide) ?_
      exact jj_sub (lv2 := [(0, .ref (ad 0)), (1, .int x1), (2, .int x2), (4, .int (x4 + 1))]) [1, 2, 3, 0] rfl (ih (x4 + 1) g6 hV)
set_option maxHeartbeats 4000000 in
set_option maxRecDepth 100000 in
theorem ar_works_11_63 {p : Program} {l : Launch} {e : Env} {s : State} {m : MethodId} {args : Array Value} {below : List Frame} {meth : Method} {c : Code} {D : va_G} {cs : Nat → ClassId} {Y X : va_W} {ad : Nat → Nat} {g0 : jm_M} (hC : JC p s m args meth c D vwCl (va_A (wr_d Y X cs ad g0) s.heap.size) 10 cX11_works (some .boolean) wsX11_works RX11 (jt_tys cs)) (x1 : Int32) (x2 : Int32) (Post : Int32 → jm_M → Prop) (K93 : jm_M → Prop) (hK93 : ∀ (g : jm_M) , K93 g → JJ (wr_d Y X cs ad) p l e rm_X11_works s m args below meth c D vwCl (va_A (wr_d Y X cs ad g0) s.heap.size) 10 0 0 (MQ below (jj_QI (wr_d Y X cs ad) D vwCl (jt_tys cs) g0 s.heap.size Post) args s 0 0 (va_A (wr_d Y X cs ad g0) s.heap.size)) 93 [(0, .ref (ad 0)), (1, .int x1), (2, .int x2)] [] g) : ∀ (f : Nat) (x4 : Int32) (g : jm_M), vr_works_63 11 x1 x2 K93 Post f x4 g → JJ (wr_d Y X cs ad) p l e rm_X11_works s m args below meth c D vwCl (va_A (wr_d Y X cs ad g0) s.heap.size) 10 0 0 (MQ below (jj_QI (wr_d Y X cs ad) D vwCl (jt_tys cs) g0 s.heap.size Post) args s 0 0 (va_A (wr_d Y X cs ad g0) s.heap.size)) 63 [(0, .ref (ad 0)), (1, .int x1), (2, .int x2), (4, .int x4)] [] g := by
  intro f
  induction f with
  | zero => intro x4 g hV; exact hV.elim
  | succ f ih =>
    intro x4 g hV
    rw [vr_works_63] at hV
    refine jj_iload (pc2 := 65) hC dX11_works_63 3 rfl rfl ?_
    refine jj_sipush (pc2 := 68) hC 160 dX11_works_65 (by decide) rfl ?_
    refine jj_icmp_ge (pc2 := 71) hC 93 dX11_works_68 (by decide) rfl (fun h8 => ?_) (fun h8 => ?_)
    · have hV := hV.1 h8
      exact jj_sub (lv2 := [(0, .ref (ad 0)), (1, .int x1), (2, .int x2)]) [0, 1, 2] rfl (hK93 g hV)
    · have hV := hV.2 h8
      refine jj_aload_n (pc2 := 72) hC dX11_works_71 rfl 0 rfl rfl ?_
      refine rg_15 (pc2 := 75) hC hi_X11_works_X11 lk_X11_works_4 dX11_works_72 rfl ?_
      refine jj_iload (pc2 := 77) hC dX11_works_75 3 rfl rfl ?_
      refine jj_iconst (pc2 := 78) hC 0 dX11_works_77 (by decide) rfl ?_
      refine rs_15 (pc2 := 79) hC hV.1 dX11_works_78 rfl (fun g9 eg9 => ?_)
      have hV := hV.2 g9 eg9
      refine jj_aload_n (pc2 := 80) hC dX11_works_79 rfl 0 rfl rfl ?_
      refine rg_16 (pc2 := 83) hC hi_X11_works_X11 lk_X11_works_5 dX11_works_80 rfl ?_
      refine jj_iload (pc2 := 85) hC dX11_works_83 3 rfl rfl ?_
      refine jj_iconst (pc2 := 86) hC 0 dX11_works_85 (by decide) rfl ?_
      refine rs_16 (pc2 := 87) hC hV.1 dX11_works_86 rfl (fun g10 eg10 => ?_)
      have hV := hV.2 g10 eg10
      refine jj_iinc (pc2 := 90) hC (x4 + 1) [(4, .int (x4 + 1)), (0, .ref (ad 0)), (1, .int x1), (2, .int x2)] dX11_works_87 3 rfl rfl (by decide) rfl rfl ?_
      refine jj_goto hC 63 dX11_works_90 (by decide) ?_
      exact jj_sub (lv2 := [(0, .ref (ad 0)), (1, .int x1), (2, .int x2), (4, .int (x4 + 1))]) [1, 2, 3, 0] rfl (ih (x4 + 1) g10 hV)
set_option maxHeartbeats 4000000 in
set_option maxRecDepth 100000 in
theorem ar_works_11_123 {p : Program} {l : Launch} {e : Env} {s : State} {m : MethodId} {args : Array Value} {below : List Frame} {meth : Method} {c : Code} {D : va_G} {cs : Nat → ClassId} {Y X : va_W} {ad : Nat → Nat} {g0 : jm_M} (hC : JC p s m args meth c D vwCl (va_A (wr_d Y X cs ad g0) s.heap.size) 10 cX11_works (some .boolean) wsX11_works RX11 (jt_tys cs)) (Post : Int32 → jm_M → Prop) : ∀ (f : Nat) (x4 : Int32) (x5 : Int32) (g : jm_M), vr_works_123 11 Post f x4 x5 g → JJ (wr_d Y X cs ad) p l e rm_X11_works s m args below meth c D vwCl (va_A (wr_d Y X cs ad g0) s.heap.size) 10 0 0 (MQ below (jj_QI (wr_d Y X cs ad) D vwCl (jt_tys cs) g0 s.heap.size Post) args s 0 0 (va_A (wr_d Y X cs ad g0) s.heap.size)) 123 [(0, .ref (ad 0)), (4, .int x4), (5, .int x5)] [] g := by
  intro f
  induction f with
  | zero => intro x4 x5 g hV; exact hV.elim
  | succ f ih =>
    intro x4 x5 g hV
    rw [vr_works_123] at hV
    refine jj_iload (pc2 := 125) hC dX11_works_123 1 rfl rfl ?_
    refine jj_if_le (pc2 := 128) hC 375 dX11_works_125 (by decide) rfl (fun h16 => ?_) (fun h16 => ?_)
    · have hV := hV.1 h16
      refine jj_iconst (pc2 := 376) hC 1 dX11_works_375 (by decide) rfl ?_
      exact jj_zret hC jj_nb1 dX11_works_376 hV
    · have hV := hV.2 h16
      refine jj_aload_n (pc2 := 129) hC dX11_works_128 rfl 0 rfl rfl ?_
      refine rg_20 (pc2 := 132) hC hi_X11_works_X11 lk_X11_works_8 dX11_works_129 rfl ?_
      refine jj_iload (pc2 := 134) hC dX11_works_132 1 rfl rfl ?_
      refine jj_iconst (pc2 := 135) hC 1 dX11_works_134 (by decide) rfl ?_
      refine jj_isub (pc2 := 136) hC dX11_works_135 rfl ?_
      refine ra_20 (pc2 := 137) hC hV.1 dX11_works_136 rfl ?_
      have hV := hV.2
      refine jj_topi (fun y17 ey17 => ?_)
      have hV := hV y17 ey17
      refine jj_istore (pc2 := 139) hC [(6, .int y17), (0, .ref (ad 0)), (4, .int x4), (5, .int x5)] dX11_works_137 (by decide) rfl rfl ?_
      refine jj_aload_n (pc2 := 140) hC dX11_works_139 rfl 1 rfl rfl ?_
      refine rg_21 (pc2 := 143) hC hi_X11_works_X11 lk_X11_works_9 dX11_works_140 rfl ?_
      refine jj_iload (pc2 := 145) hC dX11_works_143 2 rfl rfl ?_
      refine jj_iconst (pc2 := 146) hC 1 dX11_works_145 (by decide) rfl ?_
      refine jj_isub (pc2 := 147) hC dX11_works_146 rfl ?_
      refine ra_21 (pc2 := 148) hC hV.1 dX11_works_147 rfl ?_
      have hV := hV.2
      refine jj_aload_n (pc2 := 149) hC dX11_works_148 rfl 1 rfl rfl ?_
      refine rg_7 (pc2 := 152) hC hi_X11_works_X11 lk_X11_works_10 dX11_works_149 rfl ?_
      refine jj_iload (pc2 := 154) hC dX11_works_152 0 rfl rfl ?_
      refine ra_7 (pc2 := 155) hC hV.1 dX11_works_154 rfl ?_
      have hV := hV.2
      refine jj_icmp_lt (pc2 := 158) hC 164 dX11_works_155 (by decide) rfl (fun h18 => ?_) (fun h18 => ?_)
      · have hV := hV.1 h18
        refine jj_iload (pc2 := 166) hC dX11_works_164 3 rfl rfl ?_
        refine jj_sipush (pc2 := 169) hC 300 dX11_works_166 (by decide) rfl ?_
        refine jj_icmp_ne (pc2 := 172) hC 174 dX11_works_169 (by decide) rfl (fun h19 => ?_) (fun h19 => ?_)
        · have hV := hV.1 h19
          refine jj_iinc (pc2 := 177) hC (x5 + 1) [(5, .int (x5 + 1)), (6, .int y17), (0, .ref (ad 0)), (4, .int x4)] dX11_works_174 3 rfl rfl (by decide) rfl rfl ?_
          refine jj_bipush (pc2 := 179) hC 16 dX11_works_177 (by decide) rfl ?_
          refine jj_iload (pc2 := 181) hC dX11_works_179 1 rfl rfl ?_
          refine jj_imul (pc2 := 182) hC dX11_works_181 rfl ?_
          refine jj_aload_n (pc2 := 183) hC dX11_works_182 rfl 2 rfl rfl ?_
          refine rg_21 (pc2 := 186) hC hi_X11_works_X11 lk_X11_works_9 dX11_works_183 rfl ?_
          refine jj_iload (pc2 := 188) hC dX11_works_186 3 rfl rfl ?_
          refine jj_iconst (pc2 := 189) hC 1 dX11_works_188 (by decide) rfl ?_
          refine jj_isub (pc2 := 190) hC dX11_works_189 rfl ?_
          refine ra_21 (pc2 := 191) hC hV.1 dX11_works_190 rfl ?_
          have hV := hV.2
          refine jj_iadd (pc2 := 192) hC dX11_works_191 rfl ?_
          refine jj_topi (fun y20 ey20 => ?_)
          have hV := hV y20 ey20
          refine jj_istore (pc2 := 194) hC [(7, .int y20), (5, .int (x5 + 1)), (6, .int y17), (0, .ref (ad 0)), (4, .int x4)] dX11_works_192 (by decide) rfl rfl ?_
          refine jj_aload_n (pc2 := 195) hC dX11_works_194 rfl 3 rfl rfl ?_
          refine rg_21 (pc2 := 198) hC hi_X11_works_X11 lk_X11_works_9 dX11_works_195 rfl ?_
          refine jj_iload (pc2 := 200) hC dX11_works_198 4 rfl rfl ?_
          refine jj_iconst (pc2 := 201) hC 1 dX11_works_200 (by decide) rfl ?_
          refine jj_isub (pc2 := 202) hC dX11_works_201 rfl ?_
          refine jj_dup2 (pc2 := 203) hC dX11_works_202 rfl rfl rfl ?_
          refine ra_21 (pc2 := 204) hC hV.1 dX11_works_203 rfl ?_
          have hV := hV.2
          refine jj_iconst (pc2 := 205) hC 1 dX11_works_204 (by decide) rfl ?_
          refine jj_iadd (pc2 := 206) hC dX11_works_205 rfl ?_
          refine rs_21 (pc2 := 207) hC hV.1 dX11_works_206 rfl (fun g21 eg21 => ?_)
          have hV := hV.2 g21 eg21
          refine jj_aload_n (pc2 := 208) hC dX11_works_207 rfl 3 rfl rfl ?_
          refine rg_9 (pc2 := 211) hC hi_X11_works_X11 lk_X11_works_11 dX11_works_208 rfl ?_
          refine jj_iload (pc2 := 213) hC dX11_works_211 0 rfl rfl ?_
          refine ra_9 (pc2 := 214) hC hV.1 dX11_works_213 rfl ?_
          have hV := hV.2
          refine jj_topi (fun y22 ey22 => ?_)
          have hV := hV y22 ey22
          refine jj_istore (pc2 := 216) hC [(8, .int y22), (7, .int y20), (5, .int (x5 + 1)), (6, .int y17), (0, .ref (ad 0)), (4, .int x4)] dX11_works_214 (by decide) rfl rfl ?_
          refine jj_aload_n (pc2 := 217) hC dX11_works_216 rfl 4 rfl rfl ?_
          refine rg_6 (pc2 := 220) hC hi_X11_works_X11 lk_X11_works_12 dX11_works_217 rfl ?_
          refine jj_iload (pc2 := 222) hC dX11_works_220 3 rfl rfl ?_
          refine ra_6 (pc2 := 223) hC hV.1 dX11_works_222 rfl ?_
          have hV := hV.2
          refine jj_topi (fun y23 ey23 => ?_)
          have hV := hV y23 ey23
          refine jj_istore (pc2 := 225) hC [(9, .int y23), (8, .int y22), (7, .int y20), (5, .int (x5 + 1)), (6, .int y17), (0, .ref (ad 0)), (4, .int x4)] dX11_works_223 (by decide) rfl rfl ?_
          refine jj_aload_n (pc2 := 226) hC dX11_works_225 rfl 5 rfl rfl ?_
          refine rg_8 (pc2 := 229) hC hi_X11_works_X11 lk_X11_works_13 dX11_works_226 rfl ?_
          refine jj_iload (pc2 := 231) hC dX11_works_229 2 rfl rfl ?_
          refine ra_8 (pc2 := 232) hC hV.1 dX11_works_231 rfl ?_
          have hV := hV.2
          refine jj_iconst (pc2 := 233) hC 4 dX11_works_232 (by decide) rfl ?_
          refine jj_icmp_ne (pc2 := 236) hC 290 dX11_works_233 (by decide) rfl (fun h24 => ?_) (fun h24 => ?_)
          · have hV := hV.1 h24
            refine jj_aload_n (pc2 := 291) hC dX11_works_290 rfl 5 rfl rfl ?_
            refine rg_8 (pc2 := 294) hC hi_X11_works_X11 lk_X11_works_13 dX11_works_291 rfl ?_
            refine jj_iload (pc2 := 296) hC dX11_works_294 2 rfl rfl ?_
            refine ra_8 (pc2 := 297) hC hV.1 dX11_works_296 rfl ?_
            have hV := hV.2
            refine jj_iconst (pc2 := 298) hC 5 dX11_works_297 (by decide) rfl ?_
            refine jj_icmp_ne (pc2 := 301) hC 329 dX11_works_298 (by decide) rfl (fun h25 => ?_) (fun h25 => ?_)
            · have hV := hV.1 h25
              refine jj_aload_n (pc2 := 330) hC dX11_works_329 rfl 5 rfl rfl ?_
              refine rg_8 (pc2 := 333) hC hi_X11_works_X11 lk_X11_works_13 dX11_works_330 rfl ?_
              refine jj_iload (pc2 := 335) hC dX11_works_333 2 rfl rfl ?_
              refine ra_8 (pc2 := 336) hC hV.1 dX11_works_335 rfl ?_
              have hV := hV.2
              refine jj_bipush (pc2 := 338) hC 6 dX11_works_336 (by decide) rfl ?_
              refine jj_icmp_ne (pc2 := 341) hC 350 dX11_works_338 (by decide) rfl (fun h26 => ?_) (fun h26 => ?_)
              · have hV := hV.1 h26
                refine jj_aload_n (pc2 := 351) hC dX11_works_350 rfl 5 rfl rfl ?_
                refine jj_aload_n (pc2 := 352) hC dX11_works_351 rfl 5 rfl rfl ?_
                refine rg_8 (pc2 := 355) hC hi_X11_works_X11 lk_X11_works_13 dX11_works_352 rfl ?_
                refine jj_iload (pc2 := 357) hC dX11_works_355 2 rfl rfl ?_
                refine ra_8 (pc2 := 358) hC hV.1 dX11_works_357 rfl ?_
                have hV := hV.2
                refine jj_iload (pc2 := 360) hC dX11_works_358 0 rfl rfl ?_
                refine jj_iload (pc2 := 362) hC dX11_works_360 1 rfl rfl ?_
                refine jj_aload_n (pc2 := 363) hC dX11_works_362 rfl 5 rfl rfl ?_
                refine rg_10 (pc2 := 366) hC hi_X11_works_X11 lk_X11_works_14 dX11_works_363 rfl ?_
                refine jj_iload (pc2 := 368) hC dX11_works_366 2 rfl rfl ?_
                refine ra_10 (pc2 := 369) hC hV.1 dX11_works_368 rfl ?_
                have hV := hV.2
                refine jj_cVV (pc2 := 372) (wd := wr_d Y X cs ad) (g := g21) (rest := []) hC (Y.length + 0) (jx_at (V := wr_W cs ad g21) rfl) rfl rfl (cr_does l D cs Y X ad (g21 8 y20.toNatClampNeg) y23 y22 (g21 10 y20.toNatClampNeg) g21 _ hV) (cwV 4 hC.1.2.2.2.2 gX11_works_X11_does rfl rfl rfl (by decide +kernel) ⟨by decide, by decide⟩) rfl (Nat.le_of_ble_eq_true rfl) _ rfl dX11_works_369 ⟨Nat.zero_le _, Nat.zero_le _⟩ rfl (fun g28 hV => ?_)
                refine jj_goto hC 123 dX11_works_372 (by decide) ?_
                exact jj_sub (lv2 := [(0, .ref (ad 0)), (4, .int x4), (5, .int (x5 + 1))]) [5, 6, 3] rfl (ih x4 (x5 + 1) g28 hV)
              · have hV := hV.2 h26
                refine jj_aload_n (pc2 := 342) hC dX11_works_341 rfl 5 rfl rfl ?_
                refine rg_22 (pc2 := 345) hC hi_X11_works_X11 lk_X11_works_7 dX11_works_342 rfl ?_
                refine jj_if_ge (pc2 := 348) hC 372 dX11_works_345 (by decide) rfl (fun h29 => ?_) (fun h29 => ?_)
                · have hV := hV.1 h29
                  refine jj_goto hC 123 dX11_works_372 (by decide) ?_
                  exact jj_sub (lv2 := [(0, .ref (ad 0)), (4, .int x4), (5, .int (x5 + 1))]) [5, 6, 3] rfl (ih x4 (x5 + 1) g21 hV)
                · have hV := hV.2 h29
                  refine jj_iconst (pc2 := 349) hC 0 dX11_works_348 (by decide) rfl ?_
                  exact jj_zret hC jj_nb0 dX11_works_349 hV
            · have hV := hV.2 h25
              refine jj_aload_n (pc2 := 302) hC dX11_works_301 rfl 5 rfl rfl ?_
              refine rg_21 (pc2 := 305) hC hi_X11_works_X11 lk_X11_works_9 dX11_works_302 rfl ?_
              refine jj_iload (pc2 := 307) hC dX11_works_305 6 rfl rfl ?_
              refine jj_iconst (pc2 := 308) hC 1 dX11_works_307 (by decide) rfl ?_
              refine jj_isub (pc2 := 309) hC dX11_works_308 rfl ?_
              refine jj_dup2 (pc2 := 310) hC dX11_works_309 rfl rfl rfl ?_
              refine ra_21 (pc2 := 311) hC hV.1 dX11_works_310 rfl ?_
              have hV := hV.2
              refine jj_aload_n (pc2 := 312) hC dX11_works_311 rfl 5 rfl rfl ?_
              refine rg_22 (pc2 := 315) hC hi_X11_works_X11 lk_X11_works_7 dX11_works_312 rfl ?_
              refine jj_if_ne (pc2 := 318) hC 323 dX11_works_315 (by decide) rfl (fun h30 => ?_) (fun h30 => ?_)
              · have hV := hV.1 h30
                refine jj_iconst (pc2 := 324) hC 0 dX11_works_323 (by decide) rfl ?_
                refine jj_iadd (pc2 := 325) hC dX11_works_324 rfl ?_
                refine rs_21 (pc2 := 326) hC hV.1 dX11_works_325 rfl (fun g31 eg31 => ?_)
                have hV := hV.2 g31 eg31
                refine jj_goto hC 372 dX11_works_326 (by decide) ?_
                refine jj_goto hC 123 dX11_works_372 (by decide) ?_
                exact jj_sub (lv2 := [(0, .ref (ad 0)), (4, .int x4), (5, .int (x5 + 1))]) [5, 6, 3] rfl (ih x4 (x5 + 1) g31 hV)
              · have hV := hV.2 h30
                refine jj_iload (pc2 := 320) hC dX11_works_318 1 rfl rfl ?_
                refine jj_goto hC 324 dX11_works_320 (by decide) ?_
                refine jj_iadd (pc2 := 325) hC dX11_works_324 rfl ?_
                refine rs_21 (pc2 := 326) hC hV.1 dX11_works_325 rfl (fun g32 eg32 => ?_)
                have hV := hV.2 g32 eg32
                refine jj_goto hC 372 dX11_works_326 (by decide) ?_
                refine jj_goto hC 123 dX11_works_372 (by decide) ?_
                exact jj_sub (lv2 := [(0, .ref (ad 0)), (4, .int x4), (5, .int (x5 + 1))]) [5, 6, 3] rfl (ih x4 (x5 + 1) g32 hV)
          · have hV := hV.2 h24
            refine jj_iload (pc2 := 238) hC dX11_works_236 6 rfl rfl ?_
            refine jj_bipush (pc2 := 240) hC 8 dX11_works_238 (by decide) rfl ?_
            refine jj_icmp_ne (pc2 := 243) hC 245 dX11_works_240 (by decide) rfl (fun h33 => ?_) (fun h33 => ?_)
            · have hV := hV.1 h33
              refine jj_aload_n (pc2 := 246) hC dX11_works_245 rfl 5 rfl rfl ?_
              refine rg_14 (pc2 := 249) hC hi_X11_works_X11 lk_X11_works_3 dX11_works_246 rfl ?_
              refine jj_bipush (pc2 := 251) hC 10 dX11_works_249 (by decide) rfl ?_
              refine jj_iload (pc2 := 253) hC dX11_works_251 0 rfl rfl ?_
              refine jj_imul (pc2 := 254) hC dX11_works_253 rfl ?_
              refine jj_aload_n (pc2 := 255) hC dX11_works_254 rfl 5 rfl rfl ?_
              refine rg_6 (pc2 := 258) hC hi_X11_works_X11 lk_X11_works_12 dX11_works_255 rfl ?_
              refine jj_iload (pc2 := 260) hC dX11_works_258 1 rfl rfl ?_
              refine ra_6 (pc2 := 261) hC hV.1 dX11_works_260 rfl ?_
              have hV := hV.2
              refine jj_iadd (pc2 := 262) hC dX11_works_261 rfl ?_
              refine jj_dup2 (pc2 := 263) hC dX11_works_262 rfl rfl rfl ?_
              refine ra_14 (pc2 := 264) hC hV.1 dX11_works_263 rfl ?_
              have hV := hV.2
              refine jj_iconst (pc2 := 265) hC 1 dX11_works_264 (by decide) rfl ?_
              refine jj_iadd (pc2 := 266) hC dX11_works_265 rfl ?_
              refine rs_14 (pc2 := 267) hC hV.1 dX11_works_266 rfl (fun g34 eg34 => ?_)
              have hV := hV.2 g34 eg34
              refine jj_aload_n (pc2 := 268) hC dX11_works_267 rfl 5 rfl rfl ?_
              refine rg_20 (pc2 := 271) hC hi_X11_works_X11 lk_X11_works_8 dX11_works_268 rfl ?_
              refine jj_iload (pc2 := 273) hC dX11_works_271 6 rfl rfl ?_
              refine jj_iload (pc2 := 275) hC dX11_works_273 1 rfl rfl ?_
              refine rs_20 (pc2 := 276) hC hV.1 dX11_works_275 rfl (fun g35 eg35 => ?_)
              have hV := hV.2 g35 eg35
              refine jj_aload_n (pc2 := 277) hC dX11_works_276 rfl 5 rfl rfl ?_
              refine rg_21 (pc2 := 280) hC hi_X11_works_X11 lk_X11_works_9 dX11_works_277 rfl ?_
              refine jj_iload (pc2 := 282) hC dX11_works_280 6 rfl rfl ?_
              refine jj_iconst (pc2 := 283) hC 0 dX11_works_282 (by decide) rfl ?_
              refine rs_21 (pc2 := 284) hC hV.1 dX11_works_283 rfl (fun g36 eg36 => ?_)
              have hV := hV.2 g36 eg36
              refine jj_iinc (pc2 := 287) hC (x4 + 1) [(4, .int (x4 + 1)), (9, .int y23), (8, .int y22), (7, .int y20), (5, .int (x5 + 1)), (6, .int y17), (0, .ref (ad 0))] dX11_works_284 6 rfl rfl (by decide) rfl rfl ?_
              refine jj_goto hC 372 dX11_works_287 (by decide) ?_
              refine jj_goto hC 123 dX11_works_372 (by decide) ?_
              exact jj_sub (lv2 := [(0, .ref (ad 0)), (4, .int (x4 + 1)), (5, .int (x5 + 1))]) [6, 0, 4] rfl (ih (x4 + 1) (x5 + 1) g36 hV)
            · have hV := hV.2 h33
              refine jj_iconst (pc2 := 244) hC 0 dX11_works_243 (by decide) rfl ?_
              exact jj_zret hC jj_nb0 dX11_works_244 hV
        · have hV := hV.2 h19
          refine jj_iconst (pc2 := 173) hC 0 dX11_works_172 (by decide) rfl ?_
          exact jj_zret hC jj_nb0 dX11_works_173 hV
      · have hV := hV.2 h18
        refine jj_iinc (pc2 := 161) hC (x4 + (-1)) [(4, .int (x4 + (-1))), (6, .int y17), (0, .ref (ad 0)), (5, .int x5)] dX11_works_158 2 rfl rfl (by decide) rfl rfl ?_
        refine jj_goto hC 123 dX11_works_161 (by decide) ?_
        exact jj_sub (lv2 := [(0, .ref (ad 0)), (4, .int (x4 + (-1))), (5, .int x5)]) [2, 0, 3] rfl (ih (x4 + (-1)) x5 g hV)
set_option maxHeartbeats 4000000 in
set_option maxRecDepth 100000 in
theorem cr_works_11 (l : Launch) (D : va_G) (cs : Nat → ClassId) (Y X : va_W) (ad : Nat → Nat) (a1 : Int32) (a2 : Int32) (g0 : jm_M) (Post : Int32 → jm_M → Prop) (hV : vr_works 11 a1 a2 g0 Post) : JI (wr_d Y X cs ad) D vwCl (jt_tys cs) l yX11_works wsX11_works rm_X11_works 0 0 [.ref (ad 0), .int a1, .int a2, .ref (ad 12)] g0 Post := by
  refine jj_metI (cc := cX11_works) (nL := 10) (ret := (some .boolean)) (by decide) rfl (Nat.le_of_ble_eq_true rfl) [(0, .ref (ad 0)), (1, .int a1), (2, .int a2), (3, .ref (ad 12))] rfl ?_
  intro p e s m args below meth c hC hnm
  rw [vr_works] at hV
  refine jj_iconst (pc2 := 1) hC 0 dX11_works_0 (by decide) rfl ?_
  refine jj_istore (pc2 := 3) hC [(4, .int 0), (0, .ref (ad 0)), (1, .int a1), (2, .int a2), (3, .ref (ad 12))] dX11_works_1 (by decide) rfl rfl ?_
  obtain ⟨n40, hV⟩ := hV
  refine jj_sub (lv2 := [(0, .ref (ad 0)), (1, .int a1), (2, .int a2), (3, .ref (ad 12)), (4, .int 0)]) [1, 2, 3, 4, 0] rfl (ar_works_11_3 hC a1 a2 Post _ (fun g4 hV => ?_) n40 0 g0 hV)
  refine jj_iconst (pc2 := 37) hC 0 dX11_works_36 (by decide) rfl ?_
  refine jj_istore (pc2 := 39) hC [(4, .int 0), (0, .ref (ad 0)), (1, .int a1), (2, .int a2)] dX11_works_37 (by decide) rfl rfl ?_
  obtain ⟨n39, hV⟩ := hV
  refine jj_sub (lv2 := [(0, .ref (ad 0)), (1, .int a1), (2, .int a2), (4, .int 0)]) [1, 2, 3, 0] rfl (ar_works_11_39 hC a1 a2 Post _ (fun g7 hV => ?_) n39 0 g4 hV)
  refine jj_iconst (pc2 := 61) hC 0 dX11_works_60 (by decide) rfl ?_
  refine jj_istore (pc2 := 63) hC [(4, .int 0), (0, .ref (ad 0)), (1, .int a1), (2, .int a2)] dX11_works_61 (by decide) rfl rfl ?_
  obtain ⟨n38, hV⟩ := hV
  refine jj_sub (lv2 := [(0, .ref (ad 0)), (1, .int a1), (2, .int a2), (4, .int 0)]) [1, 2, 3, 0] rfl (ar_works_11_63 hC a1 a2 Post _ (fun g11 hV => ?_) n38 0 g7 hV)
  refine jj_aload_n (pc2 := 94) hC dX11_works_93 rfl 0 rfl rfl ?_
  refine jj_iconst (pc2 := 95) hC 0 dX11_works_94 (by decide) rfl ?_
  refine rp_17 (pc2 := 98) hC hi_X11_works_X11 lk_X11_works_6 dX11_works_95 rfl (fun g12 eg12 => ?_)
  have hV := hV g12 eg12
  refine jj_aload_n (pc2 := 99) hC dX11_works_98 rfl 0 rfl rfl ?_
  refine jj_iload_n (pc2 := 100) hC dX11_works_99 rfl 2 rfl rfl ?_
  refine rp_22 (pc2 := 103) hC hi_X11_works_X11 lk_X11_works_7 dX11_works_100 rfl (fun g13 eg13 => ?_)
  have hV := hV g13 eg13
  refine jj_iconst (pc2 := 104) hC 1 dX11_works_103 (by decide) rfl ?_
  refine jj_istore (pc2 := 106) hC [(4, .int 1), (0, .ref (ad 0)), (1, .int a1), (2, .int a2)] dX11_works_104 (by decide) rfl rfl ?_
  refine jj_iconst (pc2 := 107) hC 0 dX11_works_106 (by decide) rfl ?_
  refine jj_istore (pc2 := 109) hC [(5, .int 0), (4, .int 1), (0, .ref (ad 0)), (1, .int a1), (2, .int a2)] dX11_works_107 (by decide) rfl rfl ?_
  refine jj_aload_n (pc2 := 110) hC dX11_works_109 rfl 2 rfl rfl ?_
  refine rg_20 (pc2 := 113) hC hi_X11_works_X11 lk_X11_works_8 dX11_works_110 rfl ?_
  refine jj_iconst (pc2 := 114) hC 0 dX11_works_113 (by decide) rfl ?_
  refine jj_iload_n (pc2 := 115) hC dX11_works_114 rfl 3 rfl rfl ?_
  refine rs_20 (pc2 := 116) hC (jx_lit (by decide) (by decide)) dX11_works_115 rfl (fun g14 eg14 => ?_)
  have hV := hV g14 eg14
  refine jj_aload_n (pc2 := 117) hC dX11_works_116 rfl 2 rfl rfl ?_
  refine rg_21 (pc2 := 120) hC hi_X11_works_X11 lk_X11_works_9 dX11_works_117 rfl ?_
  refine jj_iconst (pc2 := 121) hC 0 dX11_works_120 (by decide) rfl ?_
  refine jj_iconst (pc2 := 122) hC 0 dX11_works_121 (by decide) rfl ?_
  refine rs_21 (pc2 := 123) hC (jx_lit (by decide) (by decide)) dX11_works_122 rfl (fun g15 eg15 => ?_)
  have hV := hV g15 eg15
  obtain ⟨n37, hV⟩ := hV
  refine jj_sub (lv2 := [(0, .ref (ad 0)), (4, .int 1), (5, .int 0)]) [2, 1, 0] rfl (ar_works_11_123 hC Post n37 1 0 g15 hV)
set_option maxHeartbeats 4000000 in
set_option maxRecDepth 100000 in
theorem ar_works_12_3 {p : Program} {l : Launch} {e : Env} {s : State} {m : MethodId} {args : Array Value} {below : List Frame} {meth : Method} {c : Code} {D : va_G} {cs : Nat → ClassId} {Y X : va_W} {ad : Nat → Nat} {g0 : jm_M} (hC : JC p s m args meth c D vwCl (va_A (wr_d Y X cs ad g0) s.heap.size) 10 cX11_works (some .boolean) wsX11_works RX11 (jt_tys cs)) (x1 : Int32) (x2 : Int32) (Post : Int32 → jm_M → Prop) (K36 : jm_M → Prop) (hK36 : ∀ (g : jm_M) , K36 g → JJ (wr_d Y X cs ad) p l e rm_X11_works s m args below meth c D vwCl (va_A (wr_d Y X cs ad g0) s.heap.size) 10 0 0 (MQ below (jj_QI (wr_d Y X cs ad) D vwCl (jt_tys cs) g0 s.heap.size Post) args s 0 0 (va_A (wr_d Y X cs ad g0) s.heap.size)) 36 [(0, .ref (ad 0)), (1, .int x1), (2, .int x2)] [] g) : ∀ (f : Nat) (x4 : Int32) (g : jm_M), vr_works_3 12 x1 x2 K36 Post f x4 g → JJ (wr_d Y X cs ad) p l e rm_X11_works s m args below meth c D vwCl (va_A (wr_d Y X cs ad g0) s.heap.size) 10 0 0 (MQ below (jj_QI (wr_d Y X cs ad) D vwCl (jt_tys cs) g0 s.heap.size Post) args s 0 0 (va_A (wr_d Y X cs ad g0) s.heap.size)) 3 [(0, .ref (ad 0)), (1, .int x1), (2, .int x2), (3, .ref (ad 13)), (4, .int x4)] [] g := by
  intro f
  induction f with
  | zero => intro x4 g hV; exact hV.elim
  | succ f ih =>
    intro x4 g hV
    rw [vr_works_3] at hV
    refine jj_iload (pc2 := 5) hC dX11_works_3 4 rfl rfl ?_
    refine jj_sipush (pc2 := 8) hC 128 dX11_works_5 (by decide) rfl ?_
    refine jj_icmp_ge (pc2 := 11) hC 36 dX11_works_8 (by decide) rfl (fun h1 => ?_) (fun h1 => ?_)
    · have hV := hV.1 h1
      exact jj_sub (lv2 := [(0, .ref (ad 0)), (1, .int x1), (2, .int x2)]) [0, 1, 2] rfl (hK36 g hV)
    · have hV := hV.2 h1
      refine jj_aload_n (pc2 := 12) hC dX11_works_11 rfl 0 rfl rfl ?_
      refine rg_13 (pc2 := 15) hC hi_X11_works_X11 lk_X11_works_1 dX11_works_12 rfl ?_
      refine jj_iload (pc2 := 17) hC dX11_works_15 4 rfl rfl ?_
      refine jj_aload_n (pc2 := 18) hC dX11_works_17 rfl 3 rfl rfl ?_
      refine jj_iload (pc2 := 20) hC dX11_works_18 4 rfl rfl ?_
      refine ra_12 (pc2 := 21) hC hV.1 dX11_works_20 rfl ?_
      have hV := hV.2
      refine rs_13 (pc2 := 22) hC hV.1 dX11_works_21 rfl (fun g2 eg2 => ?_)
      have hV := hV.2 g2 eg2
      refine jj_aload_n (pc2 := 23) hC dX11_works_22 rfl 0 rfl rfl ?_
      refine rg_19 (pc2 := 26) hC hi_X11_works_X11 lk_X11_works_2 dX11_works_23 rfl ?_
      refine jj_iload (pc2 := 28) hC dX11_works_26 4 rfl rfl ?_
      refine jj_iconst (pc2 := 29) hC 0 dX11_works_28 (by decide) rfl ?_
      refine rs_19 (pc2 := 30) hC hV.1 jj_nb0 dX11_works_29 rfl (fun g3 eg3 => ?_)
      have hV := hV.2 g3 eg3
      refine jj_iinc (pc2 := 33) hC (x4 + 1) [(4, .int (x4 + 1)), (0, .ref (ad 0)), (1, .int x1), (2, .int x2), (3, .ref (ad 13))] dX11_works_30 4 rfl rfl (by decide) rfl rfl ?_
      refine jj_goto hC 3 dX11_works_33 (by decide) ?_
      exact jj_sub (lv2 := [(0, .ref (ad 0)), (1, .int x1), (2, .int x2), (3, .ref (ad 13)), (4, .int (x4 + 1))]) [1, 2, 3, 4, 0] rfl (ih (x4 + 1) g3 hV)
set_option maxHeartbeats 4000000 in
set_option maxRecDepth 100000 in
theorem ar_works_12_39 {p : Program} {l : Launch} {e : Env} {s : State} {m : MethodId} {args : Array Value} {below : List Frame} {meth : Method} {c : Code} {D : va_G} {cs : Nat → ClassId} {Y X : va_W} {ad : Nat → Nat} {g0 : jm_M} (hC : JC p s m args meth c D vwCl (va_A (wr_d Y X cs ad g0) s.heap.size) 10 cX11_works (some .boolean) wsX11_works RX11 (jt_tys cs)) (x1 : Int32) (x2 : Int32) (Post : Int32 → jm_M → Prop) (K60 : jm_M → Prop) (hK60 : ∀ (g : jm_M) , K60 g → JJ (wr_d Y X cs ad) p l e rm_X11_works s m args below meth c D vwCl (va_A (wr_d Y X cs ad g0) s.heap.size) 10 0 0 (MQ below (jj_QI (wr_d Y X cs ad) D vwCl (jt_tys cs) g0 s.heap.size Post) args s 0 0 (va_A (wr_d Y X cs ad g0) s.heap.size)) 60 [(0, .ref (ad 0)), (1, .int x1), (2, .int x2)] [] g) : ∀ (f : Nat) (x4 : Int32) (g : jm_M), vr_works_39 12 x1 x2 K60 Post f x4 g → JJ (wr_d Y X cs ad) p l e rm_X11_works s m args below meth c D vwCl (va_A (wr_d Y X cs ad g0) s.heap.size) 10 0 0 (MQ below (jj_QI (wr_d Y X cs ad) D vwCl (jt_tys cs) g0 s.heap.size Post) args s 0 0 (va_A (wr_d Y X cs ad g0) s.heap.size)) 39 [(0, .ref (ad 0)), (1, .int x1), (2, .int x2), (4, .int x4)] [] g := by
  intro f
  induction f with
  | zero => intro x4 g hV; exact hV.elim
  | succ f ih =>
    intro x4 g hV
    rw [vr_works_39] at hV
    refine jj_iload (pc2 := 41) hC dX11_works_39 3 rfl rfl ?_
    refine jj_bipush (pc2 := 43) hC 100 dX11_works_41 (by decide) rfl ?_
    refine jj_icmp_ge (pc2 := 46) hC 60 dX11_works_43 (by decide) rfl (fun h5 => ?_) (fun h5 => ?_)
    · have hV := hV.1 h5
      exact jj_sub (lv2 := [(0, .ref (ad 0)), (1, .int x1), (2, .int x2)]) [0, 1, 2] rfl (hK60 g hV)
    · have hV := hV.2 h5
      refine jj_aload_n (pc2 := 47) hC dX11_works_46 rfl 0 rfl rfl ?_
      refine rg_14 (pc2 := 50) hC hi_X11_works_X11 lk_X11_works_3 dX11_works_47 rfl ?_
      refine jj_iload (pc2 := 52) hC dX11_works_50 3 rfl rfl ?_
      refine jj_iconst (pc2 := 53) hC 0 dX11_works_52 (by decide) rfl ?_
      refine rs_14 (pc2 := 54) hC hV.1 dX11_works_53 rfl (fun g6 eg6 => ?_)
      have hV := hV.2 g6 eg6
      refine jj_iinc (pc2 := 57) hC (x4 + 1) [(4, .int (x4 + 1)), (0, .ref (ad 0)), (1, .int x1), (2, .int x2)] dX11_works_54 3 rfl rfl (by decide) rfl rfl ?_
      refine jj_goto hC 39 dX11_works_57 (by decide) ?_
      exact jj_sub (lv2 := [(0, .ref (ad 0)), (1, .int x1), (2, .int x2), (4, .int (x4 + 1))]) [1, 2, 3, 0] rfl (ih (x4 + 1) g6 hV)
set_option maxHeartbeats 4000000 in
set_option maxRecDepth 100000 in
theorem ar_works_12_63 {p : Program} {l : Launch} {e : Env} {s : State} {m : MethodId} {args : Array Value} {below : List Frame} {meth : Method} {c : Code} {D : va_G} {cs : Nat → ClassId} {Y X : va_W} {ad : Nat → Nat} {g0 : jm_M} (hC : JC p s m args meth c D vwCl (va_A (wr_d Y X cs ad g0) s.heap.size) 10 cX11_works (some .boolean) wsX11_works RX11 (jt_tys cs)) (x1 : Int32) (x2 : Int32) (Post : Int32 → jm_M → Prop) (K93 : jm_M → Prop) (hK93 : ∀ (g : jm_M) , K93 g → JJ (wr_d Y X cs ad) p l e rm_X11_works s m args below meth c D vwCl (va_A (wr_d Y X cs ad g0) s.heap.size) 10 0 0 (MQ below (jj_QI (wr_d Y X cs ad) D vwCl (jt_tys cs) g0 s.heap.size Post) args s 0 0 (va_A (wr_d Y X cs ad g0) s.heap.size)) 93 [(0, .ref (ad 0)), (1, .int x1), (2, .int x2)] [] g) : ∀ (f : Nat) (x4 : Int32) (g : jm_M), vr_works_63 12 x1 x2 K93 Post f x4 g → JJ (wr_d Y X cs ad) p l e rm_X11_works s m args below meth c D vwCl (va_A (wr_d Y X cs ad g0) s.heap.size) 10 0 0 (MQ below (jj_QI (wr_d Y X cs ad) D vwCl (jt_tys cs) g0 s.heap.size Post) args s 0 0 (va_A (wr_d Y X cs ad g0) s.heap.size)) 63 [(0, .ref (ad 0)), (1, .int x1), (2, .int x2), (4, .int x4)] [] g := by
  intro f
  induction f with
  | zero => intro x4 g hV; exact hV.elim
  | succ f ih =>
    intro x4 g hV
    rw [vr_works_63] at hV
    refine jj_iload (pc2 := 65) hC dX11_works_63 3 rfl rfl ?_
    refine jj_sipush (pc2 := 68) hC 160 dX11_works_65 (by decide) rfl ?_
    refine jj_icmp_ge (pc2 := 71) hC 93 dX11_works_68 (by decide) rfl (fun h8 => ?_) (fun h8 => ?_)
    · have hV := hV.1 h8
      exact jj_sub (lv2 := [(0, .ref (ad 0)), (1, .int x1), (2, .int x2)]) [0, 1, 2] rfl (hK93 g hV)
    · have hV := hV.2 h8
      refine jj_aload_n (pc2 := 72) hC dX11_works_71 rfl 0 rfl rfl ?_
      refine rg_15 (pc2 := 75) hC hi_X11_works_X11 lk_X11_works_4 dX11_works_72 rfl ?_
      refine jj_iload (pc2 := 77) hC dX11_works_75 3 rfl rfl ?_
      refine jj_iconst (pc2 := 78) hC 0 dX11_works_77 (by decide) rfl ?_
      refine rs_15 (pc2 := 79) hC hV.1 dX11_works_78 rfl (fun g9 eg9 => ?_)
      have hV := hV.2 g9 eg9
      refine jj_aload_n (pc2 := 80) hC dX11_works_79 rfl 0 rfl rfl ?_
      refine rg_16 (pc2 := 83) hC hi_X11_works_X11 lk_X11_works_5 dX11_works_80 rfl ?_
      refine jj_iload (pc2 := 85) hC dX11_works_83 3 rfl rfl ?_
      refine jj_iconst (pc2 := 86) hC 0 dX11_works_85 (by decide) rfl ?_
      refine rs_16 (pc2 := 87) hC hV.1 dX11_works_86 rfl (fun g10 eg10 => ?_)
      have hV := hV.2 g10 eg10
      refine jj_iinc (pc2 := 90) hC (x4 + 1) [(4, .int (x4 + 1)), (0, .ref (ad 0)), (1, .int x1), (2, .int x2)] dX11_works_87 3 rfl rfl (by decide) rfl rfl ?_
      refine jj_goto hC 63 dX11_works_90 (by decide) ?_
      exact jj_sub (lv2 := [(0, .ref (ad 0)), (1, .int x1), (2, .int x2), (4, .int (x4 + 1))]) [1, 2, 3, 0] rfl (ih (x4 + 1) g10 hV)
set_option maxHeartbeats 4000000 in
set_option maxRecDepth 100000 in
theorem ar_works_12_123 {p : Program} {l : Launch} {e : Env} {s : State} {m : MethodId} {args : Array Value} {below : List Frame} {meth : Method} {c : Code} {D : va_G} {cs : Nat → ClassId} {Y X : va_W} {ad : Nat → Nat} {g0 : jm_M} (hC : JC p s m args meth c D vwCl (va_A (wr_d Y X cs ad g0) s.heap.size) 10 cX11_works (some .boolean) wsX11_works RX11 (jt_tys cs)) (Post : Int32 → jm_M → Prop) : ∀ (f : Nat) (x4 : Int32) (x5 : Int32) (g : jm_M), vr_works_123 12 Post f x4 x5 g → JJ (wr_d Y X cs ad) p l e rm_X11_works s m args below meth c D vwCl (va_A (wr_d Y X cs ad g0) s.heap.size) 10 0 0 (MQ below (jj_QI (wr_d Y X cs ad) D vwCl (jt_tys cs) g0 s.heap.size Post) args s 0 0 (va_A (wr_d Y X cs ad g0) s.heap.size)) 123 [(0, .ref (ad 0)), (4, .int x4), (5, .int x5)] [] g := by
  intro f
  induction f with
  | zero => intro x4 x5 g hV; exact hV.elim
  | succ f ih =>
    intro x4 x5 g hV
    rw [vr_works_123] at hV
    refine jj_iload (pc2 := 125) hC dX11_works_123 1 rfl rfl ?_
    refine jj_if_le (pc2 := 128) hC 375 dX11_works_125 (by decide) rfl (fun h16 => ?_) (fun h16 => ?_)
    · have hV := hV.1 h16
      refine jj_iconst (pc2 := 376) hC 1 dX11_works_375 (by decide) rfl ?_
      exact jj_zret hC jj_nb1 dX11_works_376 hV
    · have hV := hV.2 h16
      refine jj_aload_n (pc2 := 129) hC dX11_works_128 rfl 0 rfl rfl ?_
      refine rg_20 (pc2 := 132) hC hi_X11_works_X11 lk_X11_works_8 dX11_works_129 rfl ?_
      refine jj_iload (pc2 := 134) hC dX11_works_132 1 rfl rfl ?_
      refine jj_iconst (pc2 := 135) hC 1 dX11_works_134 (by decide) rfl ?_
      refine jj_isub (pc2 := 136) hC dX11_works_135 rfl ?_
      refine ra_20 (pc2 := 137) hC hV.1 dX11_works_136 rfl ?_
      have hV := hV.2
      refine jj_topi (fun y17 ey17 => ?_)
      have hV := hV y17 ey17
      refine jj_istore (pc2 := 139) hC [(6, .int y17), (0, .ref (ad 0)), (4, .int x4), (5, .int x5)] dX11_works_137 (by decide) rfl rfl ?_
      refine jj_aload_n (pc2 := 140) hC dX11_works_139 rfl 1 rfl rfl ?_
      refine rg_21 (pc2 := 143) hC hi_X11_works_X11 lk_X11_works_9 dX11_works_140 rfl ?_
      refine jj_iload (pc2 := 145) hC dX11_works_143 2 rfl rfl ?_
      refine jj_iconst (pc2 := 146) hC 1 dX11_works_145 (by decide) rfl ?_
      refine jj_isub (pc2 := 147) hC dX11_works_146 rfl ?_
      refine ra_21 (pc2 := 148) hC hV.1 dX11_works_147 rfl ?_
      have hV := hV.2
      refine jj_aload_n (pc2 := 149) hC dX11_works_148 rfl 1 rfl rfl ?_
      refine rg_7 (pc2 := 152) hC hi_X11_works_X11 lk_X11_works_10 dX11_works_149 rfl ?_
      refine jj_iload (pc2 := 154) hC dX11_works_152 0 rfl rfl ?_
      refine ra_7 (pc2 := 155) hC hV.1 dX11_works_154 rfl ?_
      have hV := hV.2
      refine jj_icmp_lt (pc2 := 158) hC 164 dX11_works_155 (by decide) rfl (fun h18 => ?_) (fun h18 => ?_)
      · have hV := hV.1 h18
        refine jj_iload (pc2 := 166) hC dX11_works_164 3 rfl rfl ?_
        refine jj_sipush (pc2 := 169) hC 300 dX11_works_166 (by decide) rfl ?_
        refine jj_icmp_ne (pc2 := 172) hC 174 dX11_works_169 (by decide) rfl (fun h19 => ?_) (fun h19 => ?_)
        · have hV := hV.1 h19
          refine jj_iinc (pc2 := 177) hC (x5 + 1) [(5, .int (x5 + 1)), (6, .int y17), (0, .ref (ad 0)), (4, .int x4)] dX11_works_174 3 rfl rfl (by decide) rfl rfl ?_
          refine jj_bipush (pc2 := 179) hC 16 dX11_works_177 (by decide) rfl ?_
          refine jj_iload (pc2 := 181) hC dX11_works_179 1 rfl rfl ?_
          refine jj_imul (pc2 := 182) hC dX11_works_181 rfl ?_
          refine jj_aload_n (pc2 := 183) hC dX11_works_182 rfl 2 rfl rfl ?_
          refine rg_21 (pc2 := 186) hC hi_X11_works_X11 lk_X11_works_9 dX11_works_183 rfl ?_
          refine jj_iload (pc2 := 188) hC dX11_works_186 3 rfl rfl ?_
          refine jj_iconst (pc2 := 189) hC 1 dX11_works_188 (by decide) rfl ?_
          refine jj_isub (pc2 := 190) hC dX11_works_189 rfl ?_
          refine ra_21 (pc2 := 191) hC hV.1 dX11_works_190 rfl ?_
          have hV := hV.2
          refine jj_iadd (pc2 := 192) hC dX11_works_191 rfl ?_
          refine jj_topi (fun y20 ey20 => ?_)
          have hV := hV y20 ey20
          refine jj_istore (pc2 := 194) hC [(7, .int y20), (5, .int (x5 + 1)), (6, .int y17), (0, .ref (ad 0)), (4, .int x4)] dX11_works_192 (by decide) rfl rfl ?_
          refine jj_aload_n (pc2 := 195) hC dX11_works_194 rfl 3 rfl rfl ?_
          refine rg_21 (pc2 := 198) hC hi_X11_works_X11 lk_X11_works_9 dX11_works_195 rfl ?_
          refine jj_iload (pc2 := 200) hC dX11_works_198 4 rfl rfl ?_
          refine jj_iconst (pc2 := 201) hC 1 dX11_works_200 (by decide) rfl ?_
          refine jj_isub (pc2 := 202) hC dX11_works_201 rfl ?_
          refine jj_dup2 (pc2 := 203) hC dX11_works_202 rfl rfl rfl ?_
          refine ra_21 (pc2 := 204) hC hV.1 dX11_works_203 rfl ?_
          have hV := hV.2
          refine jj_iconst (pc2 := 205) hC 1 dX11_works_204 (by decide) rfl ?_
          refine jj_iadd (pc2 := 206) hC dX11_works_205 rfl ?_
          refine rs_21 (pc2 := 207) hC hV.1 dX11_works_206 rfl (fun g21 eg21 => ?_)
          have hV := hV.2 g21 eg21
          refine jj_aload_n (pc2 := 208) hC dX11_works_207 rfl 3 rfl rfl ?_
          refine rg_9 (pc2 := 211) hC hi_X11_works_X11 lk_X11_works_11 dX11_works_208 rfl ?_
          refine jj_iload (pc2 := 213) hC dX11_works_211 0 rfl rfl ?_
          refine ra_9 (pc2 := 214) hC hV.1 dX11_works_213 rfl ?_
          have hV := hV.2
          refine jj_topi (fun y22 ey22 => ?_)
          have hV := hV y22 ey22
          refine jj_istore (pc2 := 216) hC [(8, .int y22), (7, .int y20), (5, .int (x5 + 1)), (6, .int y17), (0, .ref (ad 0)), (4, .int x4)] dX11_works_214 (by decide) rfl rfl ?_
          refine jj_aload_n (pc2 := 217) hC dX11_works_216 rfl 4 rfl rfl ?_
          refine rg_6 (pc2 := 220) hC hi_X11_works_X11 lk_X11_works_12 dX11_works_217 rfl ?_
          refine jj_iload (pc2 := 222) hC dX11_works_220 3 rfl rfl ?_
          refine ra_6 (pc2 := 223) hC hV.1 dX11_works_222 rfl ?_
          have hV := hV.2
          refine jj_topi (fun y23 ey23 => ?_)
          have hV := hV y23 ey23
          refine jj_istore (pc2 := 225) hC [(9, .int y23), (8, .int y22), (7, .int y20), (5, .int (x5 + 1)), (6, .int y17), (0, .ref (ad 0)), (4, .int x4)] dX11_works_223 (by decide) rfl rfl ?_
          refine jj_aload_n (pc2 := 226) hC dX11_works_225 rfl 5 rfl rfl ?_
          refine rg_8 (pc2 := 229) hC hi_X11_works_X11 lk_X11_works_13 dX11_works_226 rfl ?_
          refine jj_iload (pc2 := 231) hC dX11_works_229 2 rfl rfl ?_
          refine ra_8 (pc2 := 232) hC hV.1 dX11_works_231 rfl ?_
          have hV := hV.2
          refine jj_iconst (pc2 := 233) hC 4 dX11_works_232 (by decide) rfl ?_
          refine jj_icmp_ne (pc2 := 236) hC 290 dX11_works_233 (by decide) rfl (fun h24 => ?_) (fun h24 => ?_)
          · have hV := hV.1 h24
            refine jj_aload_n (pc2 := 291) hC dX11_works_290 rfl 5 rfl rfl ?_
            refine rg_8 (pc2 := 294) hC hi_X11_works_X11 lk_X11_works_13 dX11_works_291 rfl ?_
            refine jj_iload (pc2 := 296) hC dX11_works_294 2 rfl rfl ?_
            refine ra_8 (pc2 := 297) hC hV.1 dX11_works_296 rfl ?_
            have hV := hV.2
            refine jj_iconst (pc2 := 298) hC 5 dX11_works_297 (by decide) rfl ?_
            refine jj_icmp_ne (pc2 := 301) hC 329 dX11_works_298 (by decide) rfl (fun h25 => ?_) (fun h25 => ?_)
            · have hV := hV.1 h25
              refine jj_aload_n (pc2 := 330) hC dX11_works_329 rfl 5 rfl rfl ?_
              refine rg_8 (pc2 := 333) hC hi_X11_works_X11 lk_X11_works_13 dX11_works_330 rfl ?_
              refine jj_iload (pc2 := 335) hC dX11_works_333 2 rfl rfl ?_
              refine ra_8 (pc2 := 336) hC hV.1 dX11_works_335 rfl ?_
              have hV := hV.2
              refine jj_bipush (pc2 := 338) hC 6 dX11_works_336 (by decide) rfl ?_
              refine jj_icmp_ne (pc2 := 341) hC 350 dX11_works_338 (by decide) rfl (fun h26 => ?_) (fun h26 => ?_)
              · have hV := hV.1 h26
                refine jj_aload_n (pc2 := 351) hC dX11_works_350 rfl 5 rfl rfl ?_
                refine jj_aload_n (pc2 := 352) hC dX11_works_351 rfl 5 rfl rfl ?_
                refine rg_8 (pc2 := 355) hC hi_X11_works_X11 lk_X11_works_13 dX11_works_352 rfl ?_
                refine jj_iload (pc2 := 357) hC dX11_works_355 2 rfl rfl ?_
                refine ra_8 (pc2 := 358) hC hV.1 dX11_works_357 rfl ?_
                have hV := hV.2
                refine jj_iload (pc2 := 360) hC dX11_works_358 0 rfl rfl ?_
                refine jj_iload (pc2 := 362) hC dX11_works_360 1 rfl rfl ?_
                refine jj_aload_n (pc2 := 363) hC dX11_works_362 rfl 5 rfl rfl ?_
                refine rg_10 (pc2 := 366) hC hi_X11_works_X11 lk_X11_works_14 dX11_works_363 rfl ?_
                refine jj_iload (pc2 := 368) hC dX11_works_366 2 rfl rfl ?_
                refine ra_10 (pc2 := 369) hC hV.1 dX11_works_368 rfl ?_
                have hV := hV.2
                refine jj_cVV (pc2 := 372) (wd := wr_d Y X cs ad) (g := g21) (rest := []) hC (Y.length + 0) (jx_at (V := wr_W cs ad g21) rfl) rfl rfl (cr_does l D cs Y X ad (g21 8 y20.toNatClampNeg) y23 y22 (g21 10 y20.toNatClampNeg) g21 _ hV) (cwV 4 hC.1.2.2.2.2 gX11_works_X11_does rfl rfl rfl (by decide +kernel) ⟨by decide, by decide⟩) rfl (Nat.le_of_ble_eq_true rfl) _ rfl dX11_works_369 ⟨Nat.zero_le _, Nat.zero_le _⟩ rfl (fun g28 hV => ?_)
                refine jj_goto hC 123 dX11_works_372 (by decide) ?_
                exact jj_sub (lv2 := [(0, .ref (ad 0)), (4, .int x4), (5, .int (x5 + 1))]) [5, 6, 3] rfl (ih x4 (x5 + 1) g28 hV)
              · have hV := hV.2 h26
                refine jj_aload_n (pc2 := 342) hC dX11_works_341 rfl 5 rfl rfl ?_
                refine rg_22 (pc2 := 345) hC hi_X11_works_X11 lk_X11_works_7 dX11_works_342 rfl ?_
                refine jj_if_ge (pc2 := 348) hC 372 dX11_works_345 (by decide) rfl (fun h29 => ?_) (fun h29 => ?_)
                · have hV := hV.1 h29
                  refine jj_goto hC 123 dX11_works_372 (by decide) ?_
                  exact jj_sub (lv2 := [(0, .ref (ad 0)), (4, .int x4), (5, .int (x5 + 1))]) [5, 6, 3] rfl (ih x4 (x5 + 1) g21 hV)
                · have hV := hV.2 h29
                  refine jj_iconst (pc2 := 349) hC 0 dX11_works_348 (by decide) rfl ?_
                  exact jj_zret hC jj_nb0 dX11_works_349 hV
            · have hV := hV.2 h25
              refine jj_aload_n (pc2 := 302) hC dX11_works_301 rfl 5 rfl rfl ?_
              refine rg_21 (pc2 := 305) hC hi_X11_works_X11 lk_X11_works_9 dX11_works_302 rfl ?_
              refine jj_iload (pc2 := 307) hC dX11_works_305 6 rfl rfl ?_
              refine jj_iconst (pc2 := 308) hC 1 dX11_works_307 (by decide) rfl ?_
              refine jj_isub (pc2 := 309) hC dX11_works_308 rfl ?_
              refine jj_dup2 (pc2 := 310) hC dX11_works_309 rfl rfl rfl ?_
              refine ra_21 (pc2 := 311) hC hV.1 dX11_works_310 rfl ?_
              have hV := hV.2
              refine jj_aload_n (pc2 := 312) hC dX11_works_311 rfl 5 rfl rfl ?_
              refine rg_22 (pc2 := 315) hC hi_X11_works_X11 lk_X11_works_7 dX11_works_312 rfl ?_
              refine jj_if_ne (pc2 := 318) hC 323 dX11_works_315 (by decide) rfl (fun h30 => ?_) (fun h30 => ?_)
              · have hV := hV.1 h30
                refine jj_iconst (pc2 := 324) hC 0 dX11_works_323 (by decide) rfl ?_
                refine jj_iadd (pc2 := 325) hC dX11_works_324 rfl ?_
                refine rs_21 (pc2 := 326) hC hV.1 dX11_works_325 rfl (fun g31 eg31 => ?_)
                have hV := hV.2 g31 eg31
                refine jj_goto hC 372 dX11_works_326 (by decide) ?_
                refine jj_goto hC 123 dX11_works_372 (by decide) ?_
                exact jj_sub (lv2 := [(0, .ref (ad 0)), (4, .int x4), (5, .int (x5 + 1))]) [5, 6, 3] rfl (ih x4 (x5 + 1) g31 hV)
              · have hV := hV.2 h30
                refine jj_iload (pc2 := 320) hC dX11_works_318 1 rfl rfl ?_
                refine jj_goto hC 324 dX11_works_320 (by decide) ?_
                refine jj_iadd (pc2 := 325) hC dX11_works_324 rfl ?_
                refine rs_21 (pc2 := 326) hC hV.1 dX11_works_325 rfl (fun g32 eg32 => ?_)
                have hV := hV.2 g32 eg32
                refine jj_goto hC 372 dX11_works_326 (by decide) ?_
                refine jj_goto hC 123 dX11_works_372 (by decide) ?_
                exact jj_sub (lv2 := [(0, .ref (ad 0)), (4, .int x4), (5, .int (x5 + 1))]) [5, 6, 3] rfl (ih x4 (x5 + 1) g32 hV)
          · have hV := hV.2 h24
            refine jj_iload (pc2 := 238) hC dX11_works_236 6 rfl rfl ?_
            refine jj_bipush (pc2 := 240) hC 8 dX11_works_238 (by decide) rfl ?_
            refine jj_icmp_ne (pc2 := 243) hC 245 dX11_works_240 (by decide) rfl (fun h33 => ?_) (fun h33 => ?_)
            · have hV := hV.1 h33
              refine jj_aload_n (pc2 := 246) hC dX11_works_245 rfl 5 rfl rfl ?_
              refine rg_14 (pc2 := 249) hC hi_X11_works_X11 lk_X11_works_3 dX11_works_246 rfl ?_
              refine jj_bipush (pc2 := 251) hC 10 dX11_works_249 (by decide) rfl ?_
              refine jj_iload (pc2 := 253) hC dX11_works_251 0 rfl rfl ?_
              refine jj_imul (pc2 := 254) hC dX11_works_253 rfl ?_
              refine jj_aload_n (pc2 := 255) hC dX11_works_254 rfl 5 rfl rfl ?_
              refine rg_6 (pc2 := 258) hC hi_X11_works_X11 lk_X11_works_12 dX11_works_255 rfl ?_
              refine jj_iload (pc2 := 260) hC dX11_works_258 1 rfl rfl ?_
              refine ra_6 (pc2 := 261) hC hV.1 dX11_works_260 rfl ?_
              have hV := hV.2
              refine jj_iadd (pc2 := 262) hC dX11_works_261 rfl ?_
              refine jj_dup2 (pc2 := 263) hC dX11_works_262 rfl rfl rfl ?_
              refine ra_14 (pc2 := 264) hC hV.1 dX11_works_263 rfl ?_
              have hV := hV.2
              refine jj_iconst (pc2 := 265) hC 1 dX11_works_264 (by decide) rfl ?_
              refine jj_iadd (pc2 := 266) hC dX11_works_265 rfl ?_
              refine rs_14 (pc2 := 267) hC hV.1 dX11_works_266 rfl (fun g34 eg34 => ?_)
              have hV := hV.2 g34 eg34
              refine jj_aload_n (pc2 := 268) hC dX11_works_267 rfl 5 rfl rfl ?_
              refine rg_20 (pc2 := 271) hC hi_X11_works_X11 lk_X11_works_8 dX11_works_268 rfl ?_
              refine jj_iload (pc2 := 273) hC dX11_works_271 6 rfl rfl ?_
              refine jj_iload (pc2 := 275) hC dX11_works_273 1 rfl rfl ?_
              refine rs_20 (pc2 := 276) hC hV.1 dX11_works_275 rfl (fun g35 eg35 => ?_)
              have hV := hV.2 g35 eg35
              refine jj_aload_n (pc2 := 277) hC dX11_works_276 rfl 5 rfl rfl ?_
              refine rg_21 (pc2 := 280) hC hi_X11_works_X11 lk_X11_works_9 dX11_works_277 rfl ?_
              refine jj_iload (pc2 := 282) hC dX11_works_280 6 rfl rfl ?_
              refine jj_iconst (pc2 := 283) hC 0 dX11_works_282 (by decide) rfl ?_
              refine rs_21 (pc2 := 284) hC hV.1 dX11_works_283 rfl (fun g36 eg36 => ?_)
              have hV := hV.2 g36 eg36
              refine jj_iinc (pc2 := 287) hC (x4 + 1) [(4, .int (x4 + 1)), (9, .int y23), (8, .int y22), (7, .int y20), (5, .int (x5 + 1)), (6, .int y17), (0, .ref (ad 0))] dX11_works_284 6 rfl rfl (by decide) rfl rfl ?_
              refine jj_goto hC 372 dX11_works_287 (by decide) ?_
              refine jj_goto hC 123 dX11_works_372 (by decide) ?_
              exact jj_sub (lv2 := [(0, .ref (ad 0)), (4, .int (x4 + 1)), (5, .int (x5 + 1))]) [6, 0, 4] rfl (ih (x4 + 1) (x5 + 1) g36 hV)
            · have hV := hV.2 h33
              refine jj_iconst (pc2 := 244) hC 0 dX11_works_243 (by decide) rfl ?_
              exact jj_zret hC jj_nb0 dX11_works_244 hV
        · have hV := hV.2 h19
          refine jj_iconst (pc2 := 173) hC 0 dX11_works_172 (by decide) rfl ?_
          exact jj_zret hC jj_nb0 dX11_works_173 hV
      · have hV := hV.2 h18
        refine jj_iinc (pc2 := 161) hC (x4 + (-1)) [(4, .int (x4 + (-1))), (6, .int y17), (0, .ref (ad 0)), (5, .int x5)] dX11_works_158 2 rfl rfl (by decide) rfl rfl ?_
        refine jj_goto hC 123 dX11_works_161 (by decide) ?_
        exact jj_sub (lv2 := [(0, .ref (ad 0)), (4, .int (x4 + (-1))), (5, .int x5)]) [2, 0, 3] rfl (ih (x4 + (-1)) x5 g hV)
set_option maxHeartbeats 4000000 in
set_option maxRecDepth 100000 in
theorem cr_works_12 (l : Launch) (D : va_G) (cs : Nat → ClassId) (Y X : va_W) (ad : Nat → Nat) (a1 : Int32) (a2 : Int32) (g0 : jm_M) (Post : Int32 → jm_M → Prop) (hV : vr_works 12 a1 a2 g0 Post) : JI (wr_d Y X cs ad) D vwCl (jt_tys cs) l yX11_works wsX11_works rm_X11_works 0 0 [.ref (ad 0), .int a1, .int a2, .ref (ad 13)] g0 Post := by
  refine jj_metI (cc := cX11_works) (nL := 10) (ret := (some .boolean)) (by decide) rfl (Nat.le_of_ble_eq_true rfl) [(0, .ref (ad 0)), (1, .int a1), (2, .int a2), (3, .ref (ad 13))] rfl ?_
  intro p e s m args below meth c hC hnm
  rw [vr_works] at hV
  refine jj_iconst (pc2 := 1) hC 0 dX11_works_0 (by decide) rfl ?_
  refine jj_istore (pc2 := 3) hC [(4, .int 0), (0, .ref (ad 0)), (1, .int a1), (2, .int a2), (3, .ref (ad 13))] dX11_works_1 (by decide) rfl rfl ?_
  obtain ⟨n40, hV⟩ := hV
  refine jj_sub (lv2 := [(0, .ref (ad 0)), (1, .int a1), (2, .int a2), (3, .ref (ad 13)), (4, .int 0)]) [1, 2, 3, 4, 0] rfl (ar_works_12_3 hC a1 a2 Post _ (fun g4 hV => ?_) n40 0 g0 hV)
  refine jj_iconst (pc2 := 37) hC 0 dX11_works_36 (by decide) rfl ?_
  refine jj_istore (pc2 := 39) hC [(4, .int 0), (0, .ref (ad 0)), (1, .int a1), (2, .int a2)] dX11_works_37 (by decide) rfl rfl ?_
  obtain ⟨n39, hV⟩ := hV
  refine jj_sub (lv2 := [(0, .ref (ad 0)), (1, .int a1), (2, .int a2), (4, .int 0)]) [1, 2, 3, 0] rfl (ar_works_12_39 hC a1 a2 Post _ (fun g7 hV => ?_) n39 0 g4 hV)
  refine jj_iconst (pc2 := 61) hC 0 dX11_works_60 (by decide) rfl ?_
  refine jj_istore (pc2 := 63) hC [(4, .int 0), (0, .ref (ad 0)), (1, .int a1), (2, .int a2)] dX11_works_61 (by decide) rfl rfl ?_
  obtain ⟨n38, hV⟩ := hV
  refine jj_sub (lv2 := [(0, .ref (ad 0)), (1, .int a1), (2, .int a2), (4, .int 0)]) [1, 2, 3, 0] rfl (ar_works_12_63 hC a1 a2 Post _ (fun g11 hV => ?_) n38 0 g7 hV)
  refine jj_aload_n (pc2 := 94) hC dX11_works_93 rfl 0 rfl rfl ?_
  refine jj_iconst (pc2 := 95) hC 0 dX11_works_94 (by decide) rfl ?_
  refine rp_17 (pc2 := 98) hC hi_X11_works_X11 lk_X11_works_6 dX11_works_95 rfl (fun g12 eg12 => ?_)
  have hV := hV g12 eg12
  refine jj_aload_n (pc2 := 99) hC dX11_works_98 rfl 0 rfl rfl ?_
  refine jj_iload_n (pc2 := 100) hC dX11_works_99 rfl 2 rfl rfl ?_
  refine rp_22 (pc2 := 103) hC hi_X11_works_X11 lk_X11_works_7 dX11_works_100 rfl (fun g13 eg13 => ?_)
  have hV := hV g13 eg13
  refine jj_iconst (pc2 := 104) hC 1 dX11_works_103 (by decide) rfl ?_
  refine jj_istore (pc2 := 106) hC [(4, .int 1), (0, .ref (ad 0)), (1, .int a1), (2, .int a2)] dX11_works_104 (by decide) rfl rfl ?_
  refine jj_iconst (pc2 := 107) hC 0 dX11_works_106 (by decide) rfl ?_
  refine jj_istore (pc2 := 109) hC [(5, .int 0), (4, .int 1), (0, .ref (ad 0)), (1, .int a1), (2, .int a2)] dX11_works_107 (by decide) rfl rfl ?_
  refine jj_aload_n (pc2 := 110) hC dX11_works_109 rfl 2 rfl rfl ?_
  refine rg_20 (pc2 := 113) hC hi_X11_works_X11 lk_X11_works_8 dX11_works_110 rfl ?_
  refine jj_iconst (pc2 := 114) hC 0 dX11_works_113 (by decide) rfl ?_
  refine jj_iload_n (pc2 := 115) hC dX11_works_114 rfl 3 rfl rfl ?_
  refine rs_20 (pc2 := 116) hC (jx_lit (by decide) (by decide)) dX11_works_115 rfl (fun g14 eg14 => ?_)
  have hV := hV g14 eg14
  refine jj_aload_n (pc2 := 117) hC dX11_works_116 rfl 2 rfl rfl ?_
  refine rg_21 (pc2 := 120) hC hi_X11_works_X11 lk_X11_works_9 dX11_works_117 rfl ?_
  refine jj_iconst (pc2 := 121) hC 0 dX11_works_120 (by decide) rfl ?_
  refine jj_iconst (pc2 := 122) hC 0 dX11_works_121 (by decide) rfl ?_
  refine rs_21 (pc2 := 123) hC (jx_lit (by decide) (by decide)) dX11_works_122 rfl (fun g15 eg15 => ?_)
  have hV := hV g15 eg15
  obtain ⟨n37, hV⟩ := hV
  refine jj_sub (lv2 := [(0, .ref (ad 0)), (4, .int 1), (5, .int 0)]) [2, 1, 0] rfl (ar_works_12_123 hC Post n37 1 0 g15 hV)
