theorem hi_X10_worst_X10 : ∀ w ∈ u_ws RX10 TX10 13, w ∈ wsX10_worst := fun _ h => List.mem_cons_of_mem _ (List.mem_append_left _ (List.mem_append_left _ (List.mem_append_left _ (List.mem_append_left _ (List.mem_append_right _ h)))))
theorem lk_X10_worst_5 : Cond.fieldLink RX10 88 "PartedHouse" "arrivals" "LPartedHouse$Arrivals;" ∈ wsX10_worst := List.mem_of_getElem? (i := 5) rfl
theorem hi_X10_worst_X4 : ∀ w ∈ u_ws RX4 TX4 11, w ∈ wsX10_worst := fun _ h => List.mem_cons_of_mem _ (List.mem_append_left _ (List.mem_append_left _ (List.mem_append_left _ (List.mem_append_right _ h))))
theorem lk_X10_worst_6 : Cond.fieldLink RX10 216 "PartedHouse$Houses" "newCells" "[I" ∈ wsX10_worst := List.mem_of_getElem? (i := 6) rfl
theorem lk_X10_worst_2 : Cond.fieldLink RX10 26 "PartedHouse" "now" "LPartedHouse$Houses;" ∈ wsX10_worst := List.mem_of_getElem? (i := 2) rfl
theorem lk_X10_worst_1 : Cond.fieldLink RX10 81 "PartedHouse" "lawBook" "LPartedHouse$Laws;" ∈ wsX10_worst := List.mem_of_getElem? (i := 1) rfl
theorem lk_X10_worst_3 : Cond.fieldLink RX10 164 "PartedHouse$Houses" "letters" "LPartedHouse$Letters;" ∈ wsX10_worst := List.mem_of_getElem? (i := 3) rfl
theorem hi_X10_worst_X6 : ∀ w ∈ u_ws RX6 TX6 5, w ∈ wsX10_worst := fun _ h => List.mem_cons_of_mem _ (List.mem_append_left _ (List.mem_append_left _ (List.mem_append_right _ h)))
theorem lk_X10_worst_4 : Cond.fieldLink RX10 168 "PartedHouse$Letters" "waits" "I" ∈ wsX10_worst := List.mem_of_getElem? (i := 4) rfl
abbrev rm_X10_worst : Room := { frames := 3, cells := 0, slots := 0, locals := 76 }
def vc_X10_worst (a1 : Int32) (a2 : Int32) (g0 : cm_M) (Post : Int32 → cm_M → Prop) : Prop := vc_X5_has a1 g0 (fun (r1 : Int32) => ((¬ r1 = 0) → ((((g0.2.2 41 0) ≤ 6) → (vc_X1_gather g0 (fun (g5 : cm_M) => vc_X1_watch a1 g5 (fun (g7 : cm_M) => vc_X1_ofFirstBroken a2 g7 (fun (r8 : Int32) => Post r8 g7))))) ∧ ((¬ (g0.2.2 41 0) ≤ 6) → (Post (-4) g0)))) ∧ ((r1 = 0) → (Post (-1) g0)))
set_option maxHeartbeats 4000000 in
set_option maxRecDepth 100000 in
theorem kc_X10_worst (l : Launch) (D : va_G) (cs : Nat → ClassId) (Y X : va_W) (ad : Nat → Nat) (a1 : Int32) (a2 : Int32) (g0 : cm_M) (Post : Int32 → cm_M → Prop) (hV : vc_X10_worst a1 a2 g0 Post) : JI (wc_d Y X cs ad) D vwCl (jt_tys cs) l yX10_worst wsX10_worst rm_X10_worst 0 0 [.ref (ad 0), .int a1, .int a2] g0 Post := by
  refine jj_metI (cc := cX10_worst) (nL := 3) (ret := (some .int)) (by decide) rfl (Nat.le_of_ble_eq_true rfl) [(0, .ref (ad 0)), (1, .int a1), (2, .int a2)] rfl ?_
  intro p e s m args below meth c hC hnm
  rw [vc_X10_worst] at hV
  refine jj_aload_n (pc2 := 1) hC dX10_worst_0 rfl 0 rfl rfl ?_
  refine cg_M_lawBook (pc2 := 4) hC hi_X10_worst_X10 lk_X10_worst_1 dX10_worst_1 rfl ?_
  refine jj_iload_n (pc2 := 5) hC dX10_worst_4 rfl 1 rfl rfl ?_
  refine jj_cVIp (pc2 := 8) (wd := wc_d Y X cs ad) (g := g0) (rest := []) hC (Y.length + 9) (jx_at (V := wc_W cs ad g0) rfl) rfl rfl (kc_X5_has l D cs Y X ad a1 g0 _ hV) (cwV 1 hC.1.2.2.2.2 gX10_worst_X5_has rfl rfl rfl (by decide +kernel) ⟨by decide, by decide⟩) rfl (Nat.le_of_ble_eq_true rfl) _ rfl dX10_worst_5 ⟨Nat.zero_le _, Nat.zero_le _⟩ rfl (fun r1 hV => ?_)
  refine jj_if_ne (pc2 := 11) hC 13 dX10_worst_8 (by decide) rfl (fun h2 => ?_) (fun h2 => ?_)
  · have hV := hV.1 h2
    refine jj_aload_n (pc2 := 14) hC dX10_worst_13 rfl 0 rfl rfl ?_
    refine cg_M_now (pc2 := 17) hC hi_X10_worst_X10 lk_X10_worst_2 dX10_worst_14 rfl ?_
    refine cg_H_letters (pc2 := 20) hC hi_X10_worst_X4 lk_X10_worst_3 dX10_worst_17 rfl ?_
    refine cg_L_waits (pc2 := 23) hC hi_X10_worst_X6 lk_X10_worst_4 dX10_worst_20 rfl ?_
    refine jj_bipush (pc2 := 25) hC 6 dX10_worst_23 (by decide) rfl ?_
    refine jj_icmp_le (pc2 := 28) hC 31 dX10_worst_25 (by decide) rfl (fun h3 => ?_) (fun h3 => ?_)
    · have hV := hV.1 h3
      refine jj_aload_n (pc2 := 32) hC dX10_worst_31 rfl 0 rfl rfl ?_
      refine cg_M_arrivals (pc2 := 35) hC hi_X10_worst_X10 lk_X10_worst_5 dX10_worst_32 rfl ?_
      refine jj_aload_n (pc2 := 36) hC dX10_worst_35 rfl 0 rfl rfl ?_
      refine cg_M_now (pc2 := 39) hC hi_X10_worst_X10 lk_X10_worst_2 dX10_worst_36 rfl ?_
      refine cg_H_letters (pc2 := 42) hC hi_X10_worst_X4 lk_X10_worst_3 dX10_worst_39 rfl ?_
      refine jj_cVV (pc2 := 45) (wd := wc_d Y X cs ad) (g := g0) (rest := []) hC (Y.length + 10) (jx_at (V := wc_W cs ad g0) rfl) rfl rfl (kc_X1_gather l D cs Y X ad  g0 _ hV) (cwV 1 hC.1.2.2.2.2 gX10_worst_X1_gather rfl rfl rfl (by decide +kernel) ⟨by decide, by decide⟩) rfl (Nat.le_of_ble_eq_true rfl) _ rfl dX10_worst_42 ⟨Nat.zero_le _, Nat.zero_le _⟩ rfl (fun g5 hV => ?_)
      refine jj_aload_n (pc2 := 46) hC dX10_worst_45 rfl 0 rfl rfl ?_
      refine cg_M_arrivals (pc2 := 49) hC hi_X10_worst_X10 lk_X10_worst_5 dX10_worst_46 rfl ?_
      refine jj_aload_n (pc2 := 50) hC dX10_worst_49 rfl 0 rfl rfl ?_
      refine cg_M_lawBook (pc2 := 53) hC hi_X10_worst_X10 lk_X10_worst_1 dX10_worst_50 rfl ?_
      refine jj_iload_n (pc2 := 54) hC dX10_worst_53 rfl 1 rfl rfl ?_
      refine jj_aload_n (pc2 := 55) hC dX10_worst_54 rfl 0 rfl rfl ?_
      refine cg_M_now (pc2 := 58) hC hi_X10_worst_X10 lk_X10_worst_2 dX10_worst_55 rfl ?_
      refine cg_H_newCells (pc2 := 61) hC hi_X10_worst_X4 lk_X10_worst_6 dX10_worst_58 rfl ?_
      refine jj_cVV (pc2 := 64) (wd := wc_d Y X cs ad) (g := g5) (rest := []) hC (Y.length + 10) (jx_at (V := wc_W cs ad g5) rfl) rfl rfl (kc_X1_watch l D cs Y X ad a1 g5 _ hV) (cwV 3 hC.1.2.2.2.2 gX10_worst_X1_watch rfl rfl rfl (by decide +kernel) ⟨by decide, by decide⟩) rfl (Nat.le_of_ble_eq_true rfl) _ rfl dX10_worst_61 ⟨Nat.zero_le _, Nat.zero_le _⟩ rfl (fun g7 hV => ?_)
      refine jj_aload_n (pc2 := 65) hC dX10_worst_64 rfl 0 rfl rfl ?_
      refine cg_M_arrivals (pc2 := 68) hC hi_X10_worst_X10 lk_X10_worst_5 dX10_worst_65 rfl ?_
      refine jj_iload_n (pc2 := 69) hC dX10_worst_68 rfl 2 rfl rfl ?_
      refine jj_cVIp (pc2 := 72) (wd := wc_d Y X cs ad) (g := g7) (rest := []) hC (Y.length + 10) (jx_at (V := wc_W cs ad g7) rfl) rfl rfl (kc_X1_ofFirstBroken l D cs Y X ad a2 g7 _ hV) (cwV 1 hC.1.2.2.2.2 gX10_worst_X1_ofFirstBroken rfl rfl rfl (by decide +kernel) ⟨by decide, by decide⟩) rfl (Nat.le_of_ble_eq_true rfl) _ rfl dX10_worst_69 ⟨Nat.zero_le _, Nat.zero_le _⟩ rfl (fun r8 hV => ?_)
      exact jj_iret hC dX10_worst_72 hV
    · have hV := hV.2 h3
      refine jj_bipush (pc2 := 30) hC (-4) dX10_worst_28 (by decide) rfl ?_
      exact jj_iret hC dX10_worst_30 hV
  · have hV := hV.2 h2
    refine jj_iconst (pc2 := 12) hC (-1) dX10_worst_11 (by decide) rfl ?_
    exact jj_iret hC dX10_worst_12 hV
theorem hi_X10_orders_X1 : ∀ w ∈ u_ws RX1 TX1 8, w ∈ wsX10_orders := fun _ h => List.mem_cons_of_mem _ (List.mem_append_right _ h)
theorem lk_X10_orders_5 : Cond.fieldLink RX10 256 "PartedHouse$Arrivals" "ways" "[I" ∈ wsX10_orders := List.mem_of_getElem? (i := 5) rfl
theorem hi_X10_orders_X10 : ∀ w ∈ u_ws RX10 TX10 13, w ∈ wsX10_orders := fun _ h => List.mem_cons_of_mem _ (List.mem_append_left _ (List.mem_append_left _ (List.mem_append_left _ (List.mem_append_right _ h))))
theorem lk_X10_orders_4 : Cond.fieldLink RX10 88 "PartedHouse" "arrivals" "LPartedHouse$Arrivals;" ∈ wsX10_orders := List.mem_of_getElem? (i := 4) rfl
theorem hi_X10_orders_X4 : ∀ w ∈ u_ws RX4 TX4 11, w ∈ wsX10_orders := fun _ h => List.mem_cons_of_mem _ (List.mem_append_left _ (List.mem_append_left _ (List.mem_append_right _ h)))
theorem lk_X10_orders_2 : Cond.fieldLink RX10 164 "PartedHouse$Houses" "letters" "LPartedHouse$Letters;" ∈ wsX10_orders := List.mem_of_getElem? (i := 2) rfl
theorem lk_X10_orders_1 : Cond.fieldLink RX10 26 "PartedHouse" "now" "LPartedHouse$Houses;" ∈ wsX10_orders := List.mem_of_getElem? (i := 1) rfl
theorem hi_X10_orders_X6 : ∀ w ∈ u_ws RX6 TX6 5, w ∈ wsX10_orders := fun _ h => List.mem_cons_of_mem _ (List.mem_append_left _ (List.mem_append_right _ h))
theorem lk_X10_orders_3 : Cond.fieldLink RX10 168 "PartedHouse$Letters" "waits" "I" ∈ wsX10_orders := List.mem_of_getElem? (i := 3) rfl
abbrev rm_X10_orders : Room := { frames := 3, cells := 0, slots := 0, locals := 71 }
def vc_X10_orders (g0 : cm_M) (Post : Int32 → cm_M → Prop) : Prop := (((g0.2.2 41 0) ≤ 6) → (vc_X1_gather g0 (fun (g3 : cm_M) => Post (g3.2.2 60 (0 : Int32).toNatClampNeg) g3))) ∧ ((¬ (g0.2.2 41 0) ≤ 6) → (Post (-4) g0))
set_option maxHeartbeats 4000000 in
set_option maxRecDepth 100000 in
theorem kc_X10_orders (l : Launch) (D : va_G) (cs : Nat → ClassId) (Y X : va_W) (ad : Nat → Nat) (g0 : cm_M) (Post : Int32 → cm_M → Prop) (hV : vc_X10_orders g0 Post) : JI (wc_d Y X cs ad) D vwCl (jt_tys cs) l yX10_orders wsX10_orders rm_X10_orders 0 0 [.ref (ad 0)] g0 Post := by
  refine jj_metI (cc := cX10_orders) (nL := 1) (ret := (some .int)) (by decide) rfl (Nat.le_of_ble_eq_true rfl) [(0, .ref (ad 0))] rfl ?_
  intro p e s m args below meth c hC hnm
  rw [vc_X10_orders] at hV
  refine jj_aload_n (pc2 := 1) hC dX10_orders_0 rfl 0 rfl rfl ?_
  refine cg_M_now (pc2 := 4) hC hi_X10_orders_X10 lk_X10_orders_1 dX10_orders_1 rfl ?_
  refine cg_H_letters (pc2 := 7) hC hi_X10_orders_X4 lk_X10_orders_2 dX10_orders_4 rfl ?_
  refine cg_L_waits (pc2 := 10) hC hi_X10_orders_X6 lk_X10_orders_3 dX10_orders_7 rfl ?_
  refine jj_bipush (pc2 := 12) hC 6 dX10_orders_10 (by decide) rfl ?_
  refine jj_icmp_le (pc2 := 15) hC 18 dX10_orders_12 (by decide) rfl (fun h1 => ?_) (fun h1 => ?_)
  · have hV := hV.1 h1
    refine jj_aload_n (pc2 := 19) hC dX10_orders_18 rfl 0 rfl rfl ?_
    refine cg_M_arrivals (pc2 := 22) hC hi_X10_orders_X10 lk_X10_orders_4 dX10_orders_19 rfl ?_
    refine jj_aload_n (pc2 := 23) hC dX10_orders_22 rfl 0 rfl rfl ?_
    refine cg_M_now (pc2 := 26) hC hi_X10_orders_X10 lk_X10_orders_1 dX10_orders_23 rfl ?_
    refine cg_H_letters (pc2 := 29) hC hi_X10_orders_X4 lk_X10_orders_2 dX10_orders_26 rfl ?_
    refine jj_cVV (pc2 := 32) (wd := wc_d Y X cs ad) (g := g0) (rest := []) hC (Y.length + 10) (jx_at (V := wc_W cs ad g0) rfl) rfl rfl (kc_X1_gather l D cs Y X ad  g0 _ hV) (cwV 1 hC.1.2.2.2.2 gX10_orders_X1_gather rfl rfl rfl (by decide +kernel) ⟨by decide, by decide⟩) rfl (Nat.le_of_ble_eq_true rfl) _ rfl dX10_orders_29 ⟨Nat.zero_le _, Nat.zero_le _⟩ rfl (fun g3 hV => ?_)
    refine jj_aload_n (pc2 := 33) hC dX10_orders_32 rfl 0 rfl rfl ?_
    refine cg_M_arrivals (pc2 := 36) hC hi_X10_orders_X10 lk_X10_orders_4 dX10_orders_33 rfl ?_
    refine cg_V_ways (pc2 := 39) hC hi_X10_orders_X1 lk_X10_orders_5 dX10_orders_36 rfl ?_
    refine jj_iconst (pc2 := 40) hC 0 dX10_orders_39 (by decide) rfl ?_
    refine cl_V_ways (pc2 := 41) hC (jx_lit (by decide) (by decide)) dX10_orders_40 rfl ?_
    exact jj_iret hC dX10_orders_41 hV
  · have hV := hV.2 h1
    refine jj_bipush (pc2 := 17) hC (-4) dX10_orders_15 (by decide) rfl ?_
    exact jj_iret hC dX10_orders_17 hV
theorem hi_X10_unlike_X4 : ∀ w ∈ u_ws RX4 TX4 11, w ∈ wsX10_unlike := fun _ h => List.mem_cons_of_mem _ (List.mem_append_right _ h)
theorem lk_X10_unlike_3 : Cond.fieldLink RX10 276 "PartedHouse$Houses" "firstUnlike" "[I" ∈ wsX10_unlike := List.mem_of_getElem? (i := 3) rfl
theorem hi_X10_unlike_X10 : ∀ w ∈ u_ws RX10 TX10 13, w ∈ wsX10_unlike := fun _ h => List.mem_cons_of_mem _ (List.mem_append_left _ (List.mem_append_right _ h))
theorem lk_X10_unlike_1 : Cond.fieldLink RX10 26 "PartedHouse" "now" "LPartedHouse$Houses;" ∈ wsX10_unlike := List.mem_of_getElem? (i := 1) rfl
theorem lk_X10_unlike_2 : Cond.fieldLink RX10 272 "PartedHouse$Houses" "hasUnlike" "Z" ∈ wsX10_unlike := List.mem_of_getElem? (i := 2) rfl
abbrev rm_X10_unlike : Room := { frames := 0, cells := 0, slots := 0, locals := 0 }
def vc_X10_unlike (a1 : Int32) (g0 : cm_M) (Post : Int32 → Prop) : Prop := ((a1 < 0) → (Post (-1))) ∧ ((¬ a1 < 0) → (((a1 < 5) → ((((g0.2.2 30 0) = 0) → (Post (-2))) ∧ ((¬ (g0.2.2 30 0) = 0) → ((vp_in a1 5) ∧ (Post (g0.2.2 29 a1.toNatClampNeg)))))) ∧ ((¬ a1 < 5) → (Post (-1)))))
set_option maxHeartbeats 4000000 in
set_option maxRecDepth 100000 in
theorem kc_X10_unlike (l : Launch) (D : va_G) (cs : Nat → ClassId) (Y X : va_W) (ad : Nat → Nat) (a1 : Int32) (g0 : cm_M) (Post : Int32 → Prop) (hV : vc_X10_unlike a1 g0 Post) : JI (wc_d Y X cs ad) D vwCl (jt_tys cs) l yX10_unlike wsX10_unlike rm_X10_unlike 0 0 [.ref (ad 0), .int a1] g0 (fun r g2 => Post r ∧ g2 = g0) := by
  refine jj_metI (cc := cX10_unlike) (nL := 2) (ret := (some .int)) (by decide) rfl (Nat.le_of_ble_eq_true rfl) [(0, .ref (ad 0)), (1, .int a1)] rfl ?_
  intro p e s m args below meth c hC hnm
  rw [vc_X10_unlike] at hV
  refine jj_iload_n (pc2 := 1) hC dX10_unlike_0 rfl 1 rfl rfl ?_
  refine jj_if_lt (pc2 := 4) hC 9 dX10_unlike_1 (by decide) rfl (fun h1 => ?_) (fun h1 => ?_)
  · have hV := hV.1 h1
    refine jj_iconst (pc2 := 10) hC (-1) dX10_unlike_9 (by decide) rfl ?_
    exact jj_iret hC dX10_unlike_10 ⟨hV, rfl⟩
  · have hV := hV.2 h1
    refine jj_iload_n (pc2 := 5) hC dX10_unlike_4 rfl 1 rfl rfl ?_
    refine jj_iconst (pc2 := 6) hC 5 dX10_unlike_5 (by decide) rfl ?_
    refine jj_icmp_lt (pc2 := 9) hC 11 dX10_unlike_6 (by decide) rfl (fun h2 => ?_) (fun h2 => ?_)
    · have hV := hV.1 h2
      refine jj_aload_n (pc2 := 12) hC dX10_unlike_11 rfl 0 rfl rfl ?_
      refine cg_M_now (pc2 := 15) hC hi_X10_unlike_X10 lk_X10_unlike_1 dX10_unlike_12 rfl ?_
      refine cg_H_hasUnlike (pc2 := 18) hC hi_X10_unlike_X4 lk_X10_unlike_2 dX10_unlike_15 rfl ?_
      refine jj_if_eq (pc2 := 21) hC 33 dX10_unlike_18 (by decide) rfl (fun h3 => ?_) (fun h3 => ?_)
      · have hV := hV.1 h3
        refine jj_bipush (pc2 := 35) hC (-2) dX10_unlike_33 (by decide) rfl ?_
        exact jj_iret hC dX10_unlike_35 ⟨hV, rfl⟩
      · have hV := hV.2 h3
        refine jj_aload_n (pc2 := 22) hC dX10_unlike_21 rfl 0 rfl rfl ?_
        refine cg_M_now (pc2 := 25) hC hi_X10_unlike_X10 lk_X10_unlike_1 dX10_unlike_22 rfl ?_
        refine cg_H_firstUnlike (pc2 := 28) hC hi_X10_unlike_X4 lk_X10_unlike_3 dX10_unlike_25 rfl ?_
        refine jj_iload_n (pc2 := 29) hC dX10_unlike_28 rfl 1 rfl rfl ?_
        refine cl_H_firstUnlike (pc2 := 30) hC hV.1 dX10_unlike_29 rfl ?_
        have hV := hV.2
        refine jj_goto hC 35 dX10_unlike_30 (by decide) ?_
        exact jj_iret hC dX10_unlike_35 ⟨hV, rfl⟩
    · have hV := hV.2 h2
      refine jj_iconst (pc2 := 10) hC (-1) dX10_unlike_9 (by decide) rfl ?_
      exact jj_iret hC dX10_unlike_10 ⟨hV, rfl⟩
theorem hi_X10_differ_X10 : ∀ w ∈ u_ws RX10 TX10 13, w ∈ wsX10_differ := fun _ h => List.mem_cons_of_mem _ (List.mem_append_left _ (List.mem_append_right _ h))
theorem lk_X10_differ_1 : Cond.fieldLink RX10 26 "PartedHouse" "now" "LPartedHouse$Houses;" ∈ wsX10_differ := List.mem_of_getElem? (i := 1) rfl
abbrev rm_X10_differ : Room := { frames := 1, cells := 0, slots := 0, locals := 22 }
def vc_X10_differ (g0 : cm_M) (Post : Int32 → Prop) : Prop := vc_X4_unlikeCells g0 (fun (r1 : Int32) => Post r1)
set_option maxHeartbeats 4000000 in
set_option maxRecDepth 100000 in
theorem kc_X10_differ (l : Launch) (D : va_G) (cs : Nat → ClassId) (Y X : va_W) (ad : Nat → Nat) (g0 : cm_M) (Post : Int32 → Prop) (hV : vc_X10_differ g0 Post) : JI (wc_d Y X cs ad) D vwCl (jt_tys cs) l yX10_differ wsX10_differ rm_X10_differ 0 0 [.ref (ad 0)] g0 (fun r g2 => Post r ∧ g2 = g0) := by
  refine jj_metI (cc := cX10_differ) (nL := 1) (ret := (some .int)) (by decide) rfl (Nat.le_of_ble_eq_true rfl) [(0, .ref (ad 0))] rfl ?_
  intro p e s m args below meth c hC hnm
  rw [vc_X10_differ] at hV
  refine jj_aload_n (pc2 := 1) hC dX10_differ_0 rfl 0 rfl rfl ?_
  refine cg_M_now (pc2 := 4) hC hi_X10_differ_X10 lk_X10_differ_1 dX10_differ_1 rfl ?_
  refine jj_cVIp (pc2 := 7) (wd := wc_d Y X cs ad) (g := g0) (rest := []) hC (Y.length + 3) (jx_at (V := wc_W cs ad g0) rfl) rfl rfl (kc_X4_unlikeCells l D cs Y X ad  g0 _ hV) (cwV 0 hC.1.2.2.2.2 gX10_differ_X4_unlikeCells rfl rfl rfl (by decide +kernel) ⟨by decide, by decide⟩) rfl (Nat.le_of_ble_eq_true rfl) _ rfl dX10_differ_4 ⟨Nat.zero_le _, Nat.zero_le _⟩ rfl (fun r1 hV => ?_)
  exact jj_iret hC dX10_differ_7 ⟨hV, rfl⟩
theorem hi_X10_sync_X10 : ∀ w ∈ u_ws RX10 TX10 13, w ∈ wsX10_sync := fun _ h => List.mem_cons_of_mem _ (List.mem_append_left _ (List.mem_append_left _ (List.mem_append_right _ h)))
theorem lk_X10_sync_1 : Cond.fieldLink RX10 26 "PartedHouse" "now" "LPartedHouse$Houses;" ∈ wsX10_sync := List.mem_of_getElem? (i := 1) rfl
abbrev rm_X10_sync : Room := { frames := 2, cells := 0, slots := 0, locals := 60 }
def vc_X10_sync (g0 : cm_M) (Post : Int32 → cm_M → Prop) : Prop := vc_X4_unlikeCells g0 (fun (r1 : Int32) => vc_X4_renew g0 (fun (g3 : cm_M) => Post r1 g3))
set_option maxHeartbeats 4000000 in
set_option maxRecDepth 100000 in
theorem kc_X10_sync (l : Launch) (D : va_G) (cs : Nat → ClassId) (Y X : va_W) (ad : Nat → Nat) (g0 : cm_M) (Post : Int32 → cm_M → Prop) (hV : vc_X10_sync g0 Post) : JI (wc_d Y X cs ad) D vwCl (jt_tys cs) l yX10_sync wsX10_sync rm_X10_sync 0 0 [.ref (ad 0)] g0 Post := by
  refine jj_metI (cc := cX10_sync) (nL := 2) (ret := (some .int)) (by decide) rfl (Nat.le_of_ble_eq_true rfl) [(0, .ref (ad 0))] rfl ?_
  intro p e s m args below meth c hC hnm
  rw [vc_X10_sync] at hV
  refine jj_aload_n (pc2 := 1) hC dX10_sync_0 rfl 0 rfl rfl ?_
  refine cg_M_now (pc2 := 4) hC hi_X10_sync_X10 lk_X10_sync_1 dX10_sync_1 rfl ?_
  refine jj_cVIp (pc2 := 7) (wd := wc_d Y X cs ad) (g := g0) (rest := []) hC (Y.length + 3) (jx_at (V := wc_W cs ad g0) rfl) rfl rfl (kc_X4_unlikeCells l D cs Y X ad  g0 _ hV) (cwV 0 hC.1.2.2.2.2 gX10_sync_X4_unlikeCells rfl rfl rfl (by decide +kernel) ⟨by decide, by decide⟩) rfl (Nat.le_of_ble_eq_true rfl) _ rfl dX10_sync_4 ⟨Nat.zero_le _, Nat.zero_le _⟩ rfl (fun r1 hV => ?_)
  refine jj_istore_n (pc2 := 8) hC [(1, .int r1), (0, .ref (ad 0))] dX10_sync_7 rfl (by decide) rfl rfl ?_
  refine jj_aload_n (pc2 := 9) hC dX10_sync_8 rfl 1 rfl rfl ?_
  refine cg_M_now (pc2 := 12) hC hi_X10_sync_X10 lk_X10_sync_1 dX10_sync_9 rfl ?_
  refine jj_cVV (pc2 := 15) (wd := wc_d Y X cs ad) (g := g0) (rest := []) hC (Y.length + 3) (jx_at (V := wc_W cs ad g0) rfl) rfl rfl (kc_X4_renew l D cs Y X ad  g0 _ hV) (cwV 0 hC.1.2.2.2.2 gX10_sync_X4_renew rfl rfl rfl (by decide +kernel) ⟨by decide, by decide⟩) rfl (Nat.le_of_ble_eq_true rfl) _ rfl dX10_sync_12 ⟨Nat.zero_le _, Nat.zero_le _⟩ rfl (fun g3 hV => ?_)
  refine jj_iload_n (pc2 := 16) hC dX10_sync_15 rfl 0 rfl rfl ?_
  exact jj_iret hC dX10_sync_16 hV
theorem hi_X10_count_X9 : ∀ w ∈ u_ws RX9 TX9 11, w ∈ wsX10_count := fun _ h => List.mem_cons_of_mem _ (List.mem_append_left _ (List.mem_append_left _ (List.mem_append_left _ (List.mem_append_right _ h))))
theorem lk_X10_count_2 : Cond.fieldLink RX10 92 "PartedHouse$Text" "modules" "I" ∈ wsX10_count := List.mem_of_getElem? (i := 2) rfl
theorem hi_X10_count_X10 : ∀ w ∈ u_ws RX10 TX10 13, w ∈ wsX10_count := fun _ h => List.mem_cons_of_mem _ (List.mem_append_left _ (List.mem_append_left _ (List.mem_append_left _ (List.mem_append_left _ (List.mem_append_right _ h)))))
theorem lk_X10_count_1 : Cond.fieldLink RX10 12 "PartedHouse" "text" "LPartedHouse$Text;" ∈ wsX10_count := List.mem_of_getElem? (i := 1) rfl
theorem lk_X10_count_3 : Cond.fieldLink RX10 104 "PartedHouse$Text" "tables" "I" ∈ wsX10_count := List.mem_of_getElem? (i := 3) rfl
theorem lk_X10_count_4 : Cond.fieldLink RX10 110 "PartedHouse$Text" "routines" "I" ∈ wsX10_count := List.mem_of_getElem? (i := 4) rfl
theorem hi_X10_count_X5 : ∀ w ∈ u_ws RX5 TX5 5, w ∈ wsX10_count := fun _ h => List.mem_cons_of_mem _ (List.mem_append_left _ (List.mem_append_left _ (List.mem_append_right _ h)))
theorem lk_X10_count_6 : Cond.fieldLink RX10 231 "PartedHouse$Laws" "made" "I" ∈ wsX10_count := List.mem_of_getElem? (i := 6) rfl
theorem lk_X10_count_5 : Cond.fieldLink RX10 81 "PartedHouse" "lawBook" "LPartedHouse$Laws;" ∈ wsX10_count := List.mem_of_getElem? (i := 5) rfl
theorem hi_X10_count_X4 : ∀ w ∈ u_ws RX4 TX4 11, w ∈ wsX10_count := fun _ h => List.mem_cons_of_mem _ (List.mem_append_left _ (List.mem_append_right _ h))
theorem lk_X10_count_8 : Cond.fieldLink RX10 290 "PartedHouse$Houses" "oldActs" "I" ∈ wsX10_count := List.mem_of_getElem? (i := 8) rfl
theorem lk_X10_count_7 : Cond.fieldLink RX10 26 "PartedHouse" "now" "LPartedHouse$Houses;" ∈ wsX10_count := List.mem_of_getElem? (i := 7) rfl
theorem lk_X10_count_9 : Cond.fieldLink RX10 293 "PartedHouse$Houses" "newActs" "I" ∈ wsX10_count := List.mem_of_getElem? (i := 9) rfl
theorem hi_X10_count_X6 : ∀ w ∈ u_ws RX6 TX6 5, w ∈ wsX10_count := fun _ h => List.mem_cons_of_mem _ (List.mem_append_right _ h)
theorem lk_X10_count_11 : Cond.fieldLink RX10 296 "PartedHouse$Letters" "sent" "I" ∈ wsX10_count := List.mem_of_getElem? (i := 11) rfl
theorem lk_X10_count_10 : Cond.fieldLink RX10 164 "PartedHouse$Houses" "letters" "LPartedHouse$Letters;" ∈ wsX10_count := List.mem_of_getElem? (i := 10) rfl
theorem lk_X10_count_12 : Cond.fieldLink RX10 168 "PartedHouse$Letters" "waits" "I" ∈ wsX10_count := List.mem_of_getElem? (i := 12) rfl
theorem lk_X10_count_13 : Cond.fieldLink RX10 269 "PartedHouse$Houses" "besides" "I" ∈ wsX10_count := List.mem_of_getElem? (i := 13) rfl
abbrev rm_X10_count : Room := { frames := 0, cells := 0, slots := 0, locals := 0 }
def vc_X10_count (a1 : Int32) (g0 : cm_M) (Post : Int32 → Prop) : Prop := ((a1.toInt < 0 ∨ 8 < a1.toInt) → (Post (-1))) ∧ (a1 = 0 → (Post (g0.2.2 12 0))) ∧ (a1 = 1 → (Post (g0.2.2 13 0))) ∧ (a1 = 2 → (Post (g0.2.2 14 0))) ∧ (a1 = 3 → (Post (g0.2.2 59 0))) ∧ (a1 = 4 → (Post (g0.2.2 31 0))) ∧ (a1 = 5 → (Post (g0.2.2 32 0))) ∧ (a1 = 6 → (Post (g0.2.2 40 0))) ∧ (a1 = 7 → (Post (g0.2.2 41 0))) ∧ (a1 = 8 → (Post (g0.2.2 33 0)))
set_option maxHeartbeats 4000000 in
set_option maxRecDepth 100000 in
theorem kc_X10_count (l : Launch) (D : va_G) (cs : Nat → ClassId) (Y X : va_W) (ad : Nat → Nat) (a1 : Int32) (g0 : cm_M) (Post : Int32 → Prop) (hV : vc_X10_count a1 g0 Post) : JI (wc_d Y X cs ad) D vwCl (jt_tys cs) l yX10_count wsX10_count rm_X10_count 0 0 [.ref (ad 0), .int a1] g0 (fun r g2 => Post r ∧ g2 = g0) := by
  refine jj_metI (cc := cX10_count) (nL := 2) (ret := (some .int)) (by decide) rfl (Nat.le_of_ble_eq_true rfl) [(0, .ref (ad 0)), (1, .int a1)] rfl ?_
  intro p e s m args below meth c hC hnm
  rw [vc_X10_count] at hV
  refine jj_iload_n (pc2 := 1) hC dX10_count_0 rfl 1 rfl rfl ?_
  by_cases h1 : a1.toInt < 0 ∨ 8 < a1.toInt
  · have hV := hV.1 h1
    refine jj_tabOut hC 130 dX10_count_1 h1 (by decide) ?_
    refine jj_iconst (pc2 := 131) hC (-1) dX10_count_130 (by decide) rfl ?_
    exact jj_iret hC dX10_count_131 ⟨hV, rfl⟩
  have hV := hV.2
  rcases jj_sw_0_8 a1 h1 with hs | hs | hs | hs | hs | hs | hs | hs | hs
  · have hV := hV.1 hs
    refine jj_tabIn (off := 51) hC 52 dX10_count_1 (fun q => h1 (Or.inl q)) (fun q => h1 (Or.inr q)) (by rw [hs]; decide) (by decide) ?_
    refine jj_aload_n (pc2 := 53) hC dX10_count_52 rfl 0 rfl rfl ?_
    refine cg_M_text (pc2 := 56) hC hi_X10_count_X10 lk_X10_count_1 dX10_count_53 rfl ?_
    refine cg_T_modules (pc2 := 59) hC hi_X10_count_X9 lk_X10_count_2 dX10_count_56 rfl ?_
    exact jj_iret hC dX10_count_59 ⟨hV, rfl⟩
  · have hV := hV.2.1 hs
    refine jj_tabIn (off := 59) hC 60 dX10_count_1 (fun q => h1 (Or.inl q)) (fun q => h1 (Or.inr q)) (by rw [hs]; decide) (by decide) ?_
    refine jj_aload_n (pc2 := 61) hC dX10_count_60 rfl 0 rfl rfl ?_
    refine cg_M_text (pc2 := 64) hC hi_X10_count_X10 lk_X10_count_1 dX10_count_61 rfl ?_
    refine cg_T_tables (pc2 := 67) hC hi_X10_count_X9 lk_X10_count_3 dX10_count_64 rfl ?_
    exact jj_iret hC dX10_count_67 ⟨hV, rfl⟩
  · have hV := hV.2.2.1 hs
    refine jj_tabIn (off := 67) hC 68 dX10_count_1 (fun q => h1 (Or.inl q)) (fun q => h1 (Or.inr q)) (by rw [hs]; decide) (by decide) ?_
    refine jj_aload_n (pc2 := 69) hC dX10_count_68 rfl 0 rfl rfl ?_
    refine cg_M_text (pc2 := 72) hC hi_X10_count_X10 lk_X10_count_1 dX10_count_69 rfl ?_
    refine cg_T_routines (pc2 := 75) hC hi_X10_count_X9 lk_X10_count_4 dX10_count_72 rfl ?_
    exact jj_iret hC dX10_count_75 ⟨hV, rfl⟩
  · have hV := hV.2.2.2.1 hs
    refine jj_tabIn (off := 75) hC 76 dX10_count_1 (fun q => h1 (Or.inl q)) (fun q => h1 (Or.inr q)) (by rw [hs]; decide) (by decide) ?_
    refine jj_aload_n (pc2 := 77) hC dX10_count_76 rfl 0 rfl rfl ?_
    refine cg_M_lawBook (pc2 := 80) hC hi_X10_count_X10 lk_X10_count_5 dX10_count_77 rfl ?_
    refine cg_B_made (pc2 := 83) hC hi_X10_count_X5 lk_X10_count_6 dX10_count_80 rfl ?_
    exact jj_iret hC dX10_count_83 ⟨hV, rfl⟩
  · have hV := hV.2.2.2.2.1 hs
    refine jj_tabIn (off := 83) hC 84 dX10_count_1 (fun q => h1 (Or.inl q)) (fun q => h1 (Or.inr q)) (by rw [hs]; decide) (by decide) ?_
    refine jj_aload_n (pc2 := 85) hC dX10_count_84 rfl 0 rfl rfl ?_
    refine cg_M_now (pc2 := 88) hC hi_X10_count_X10 lk_X10_count_7 dX10_count_85 rfl ?_
    refine cg_H_oldActs (pc2 := 91) hC hi_X10_count_X4 lk_X10_count_8 dX10_count_88 rfl ?_
    exact jj_iret hC dX10_count_91 ⟨hV, rfl⟩
  · have hV := hV.2.2.2.2.2.1 hs
    refine jj_tabIn (off := 91) hC 92 dX10_count_1 (fun q => h1 (Or.inl q)) (fun q => h1 (Or.inr q)) (by rw [hs]; decide) (by decide) ?_
    refine jj_aload_n (pc2 := 93) hC dX10_count_92 rfl 0 rfl rfl ?_
    refine cg_M_now (pc2 := 96) hC hi_X10_count_X10 lk_X10_count_7 dX10_count_93 rfl ?_
    refine cg_H_newActs (pc2 := 99) hC hi_X10_count_X4 lk_X10_count_9 dX10_count_96 rfl ?_
    exact jj_iret hC dX10_count_99 ⟨hV, rfl⟩
  · have hV := hV.2.2.2.2.2.2.1 hs
    refine jj_tabIn (off := 99) hC 100 dX10_count_1 (fun q => h1 (Or.inl q)) (fun q => h1 (Or.inr q)) (by rw [hs]; decide) (by decide) ?_
    refine jj_aload_n (pc2 := 101) hC dX10_count_100 rfl 0 rfl rfl ?_
    refine cg_M_now (pc2 := 104) hC hi_X10_count_X10 lk_X10_count_7 dX10_count_101 rfl ?_
    refine cg_H_letters (pc2 := 107) hC hi_X10_count_X4 lk_X10_count_10 dX10_count_104 rfl ?_
    refine cg_L_sent (pc2 := 110) hC hi_X10_count_X6 lk_X10_count_11 dX10_count_107 rfl ?_
    exact jj_iret hC dX10_count_110 ⟨hV, rfl⟩
  · have hV := hV.2.2.2.2.2.2.2.1 hs
    refine jj_tabIn (off := 110) hC 111 dX10_count_1 (fun q => h1 (Or.inl q)) (fun q => h1 (Or.inr q)) (by rw [hs]; decide) (by decide) ?_
    refine jj_aload_n (pc2 := 112) hC dX10_count_111 rfl 0 rfl rfl ?_
    refine cg_M_now (pc2 := 115) hC hi_X10_count_X10 lk_X10_count_7 dX10_count_112 rfl ?_
    refine cg_H_letters (pc2 := 118) hC hi_X10_count_X4 lk_X10_count_10 dX10_count_115 rfl ?_
    refine cg_L_waits (pc2 := 121) hC hi_X10_count_X6 lk_X10_count_12 dX10_count_118 rfl ?_
    exact jj_iret hC dX10_count_121 ⟨hV, rfl⟩
  · have hV := hV.2.2.2.2.2.2.2.2 hs
    refine jj_tabIn (off := 121) hC 122 dX10_count_1 (fun q => h1 (Or.inl q)) (fun q => h1 (Or.inr q)) (by rw [hs]; decide) (by decide) ?_
    refine jj_aload_n (pc2 := 123) hC dX10_count_122 rfl 0 rfl rfl ?_
    refine cg_M_now (pc2 := 126) hC hi_X10_count_X10 lk_X10_count_7 dX10_count_123 rfl ?_
    refine cg_H_besides (pc2 := 129) hC hi_X10_count_X4 lk_X10_count_13 dX10_count_126 rfl ?_
    exact jj_iret hC dX10_count_129 ⟨hV, rfl⟩
