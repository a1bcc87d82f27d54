theorem hi_X11_settle_X11 : ∀ w ∈ u_ws RX11 TX11 63, w ∈ wsX11_settle := fun _ h => List.mem_cons_of_mem _ (List.mem_append_right _ h)
theorem lk_X11_settle_1 : Cond.fieldLink RX11 242 "PartedHouseModel" "sent" "I" ∈ wsX11_settle := List.mem_of_getElem? (i := 1) rfl
abbrev rm_X11_settle : Room := { frames := 2, cells := 0, slots := 0, locals := 43 }
def vr_settle_4 (Post : Int32 → jm_M → Prop) : Nat → Int32 → Int32 → jm_M → Prop
  | 0, _, _, _ => False
  | f + 1, x1, x2, g => (((g 40 0) ≤ x2) → (Post x1 g)) ∧ ((¬ (g 40 0) ≤ x2) → (vr_deliver x2 g (fun (r2 : Int32) (g3 : jm_M) => ∀ y4 : Int32, y4 = x1 + r2 → (vr_settle_4 Post f y4 (x2 + 1) g3))))
def vr_settle (g0 : jm_M) (Post : Int32 → jm_M → Prop) : Prop := ∃ n5 : Nat, vr_settle_4 Post n5 0 0 g0
set_option maxHeartbeats 4000000 in
set_option maxRecDepth 100000 in
theorem ar_settle_4 {p : Program} {l : Launch} {e : Env} {s : State} {m : MethodId} {args : Array Value} {below : List Frame} {meth : Method} {c : Code} {D : va_G} {cs : Nat → ClassId} {Y X : va_W} {ad : Nat → Nat} {g0 : jm_M} (hC : JC p s m args meth c D vwCl (va_A (wr_d Y X cs ad g0) s.heap.size) 3 cX11_settle (some .int) wsX11_settle RX11 (jt_tys cs)) (Post : Int32 → jm_M → Prop) : ∀ (f : Nat) (x1 : Int32) (x2 : Int32) (g : jm_M), vr_settle_4 Post f x1 x2 g → JJ (wr_d Y X cs ad) p l e rm_X11_settle s m args below meth c D vwCl (va_A (wr_d Y X cs ad g0) s.heap.size) 3 0 0 (MQ below (jj_QI (wr_d Y X cs ad) D vwCl (jt_tys cs) g0 s.heap.size Post) args s 0 0 (va_A (wr_d Y X cs ad g0) s.heap.size)) 4 [(0, .ref (ad 0)), (1, .int x1), (2, .int x2)] [] g := by
  intro f
  induction f with
  | zero => intro x1 x2 g hV; exact hV.elim
  | succ f ih =>
    intro x1 x2 g hV
    rw [vr_settle_4] at hV
    refine jj_iload_n (pc2 := 5) hC dX11_settle_4 rfl 2 rfl rfl ?_
    refine jj_aload_n (pc2 := 6) hC dX11_settle_5 rfl 0 rfl rfl ?_
    refine rg_40 (pc2 := 9) hC hi_X11_settle_X11 lk_X11_settle_1 dX11_settle_6 rfl ?_
    refine jj_icmp_ge (pc2 := 12) hC 26 dX11_settle_9 (by decide) rfl (fun h1 => ?_) (fun h1 => ?_)
    · have hV := hV.1 h1
      refine jj_iload_n (pc2 := 27) hC dX11_settle_26 rfl 1 rfl rfl ?_
      exact jj_iret hC dX11_settle_27 hV
    · have hV := hV.2 h1
      refine jj_iload_n (pc2 := 13) hC dX11_settle_12 rfl 1 rfl rfl ?_
      refine jj_aload_n (pc2 := 14) hC dX11_settle_13 rfl 0 rfl rfl ?_
      refine jj_iload_n (pc2 := 15) hC dX11_settle_14 rfl 2 rfl rfl ?_
      refine jj_cVI (pc2 := 18) (wd := wr_d Y X cs ad) (g := g) (rest := [.int x1]) hC (Y.length + 0) (jx_at (V := wr_W cs ad g) rfl) rfl rfl (cr_deliver l D cs Y X ad x2 g _ hV) (cwV 1 hC.1.2.2.2.2 gX11_settle_X11_deliver rfl rfl rfl (by decide +kernel) ⟨by decide, by decide⟩) rfl (Nat.le_of_ble_eq_true rfl) _ rfl dX11_settle_15 ⟨Nat.zero_le _, Nat.zero_le _⟩ rfl (fun r2 g3 hV => ?_)
      refine jj_iadd (pc2 := 19) hC dX11_settle_18 rfl ?_
      refine jj_topi (fun y4 ey4 => ?_)
      have hV := hV y4 ey4
      refine jj_istore_n (pc2 := 20) hC [(1, .int y4), (0, .ref (ad 0)), (2, .int x2)] dX11_settle_19 rfl (by decide) rfl rfl ?_
      refine jj_iinc (pc2 := 23) hC (x2 + 1) [(2, .int (x2 + 1)), (1, .int y4), (0, .ref (ad 0))] dX11_settle_20 2 rfl rfl (by decide) rfl rfl ?_
      refine jj_goto hC 4 dX11_settle_23 (by decide) ?_
      exact jj_sub (lv2 := [(0, .ref (ad 0)), (1, .int y4), (2, .int (x2 + 1))]) [2, 1, 0] rfl (ih y4 (x2 + 1) g3 hV)
set_option maxHeartbeats 4000000 in
set_option maxRecDepth 100000 in
theorem cr_settle (l : Launch) (D : va_G) (cs : Nat → ClassId) (Y X : va_W) (ad : Nat → Nat) (g0 : jm_M) (Post : Int32 → jm_M → Prop) (hV : vr_settle g0 Post) : JI (wr_d Y X cs ad) D vwCl (jt_tys cs) l yX11_settle wsX11_settle rm_X11_settle 0 0 [.ref (ad 0)] g0 Post := by
  refine jj_metI (cc := cX11_settle) (nL := 3) (ret := (some .int)) (by decide) rfl (Nat.le_of_ble_eq_true rfl) [(0, .ref (ad 0))] rfl ?_
  intro p e s m args below meth c hC hnm
  rw [vr_settle] at hV
  refine jj_iconst (pc2 := 1) hC 0 dX11_settle_0 (by decide) rfl ?_
  refine jj_istore_n (pc2 := 2) hC [(1, .int 0), (0, .ref (ad 0))] dX11_settle_1 rfl (by decide) rfl rfl ?_
  refine jj_iconst (pc2 := 3) hC 0 dX11_settle_2 (by decide) rfl ?_
  refine jj_istore_n (pc2 := 4) hC [(2, .int 0), (1, .int 0), (0, .ref (ad 0))] dX11_settle_3 rfl (by decide) rfl rfl ?_
  obtain ⟨n5, hV⟩ := hV
  refine jj_sub (lv2 := [(0, .ref (ad 0)), (1, .int 0), (2, .int 0)]) [2, 1, 0] rfl (ar_settle_4 hC Post n5 0 0 g0 hV)
theorem lk_X11_letter_2 : Cond.constant RX11 192 (-2000000000) ∈ wsX11_letter := List.mem_of_getElem? (i := 2) rfl
theorem hi_X11_letter_X11 : ∀ w ∈ u_ws RX11 TX11 63, w ∈ wsX11_letter := fun _ h => List.mem_cons_of_mem _ (List.mem_append_right _ h)
theorem lk_X11_letter_3 : Cond.fieldLink RX11 98 "PartedHouseModel" "letterCell" "[I" ∈ wsX11_letter := List.mem_of_getElem? (i := 3) rfl
theorem lk_X11_letter_4 : Cond.fieldLink RX11 101 "PartedHouseModel" "letterSays" "[I" ∈ wsX11_letter := List.mem_of_getElem? (i := 4) rfl
theorem lk_X11_letter_5 : Cond.fieldLink RX11 104 "PartedHouseModel" "letterFrom" "[I" ∈ wsX11_letter := List.mem_of_getElem? (i := 5) rfl
theorem lk_X11_letter_6 : Cond.fieldLink RX11 107 "PartedHouseModel" "letterTo" "[I" ∈ wsX11_letter := List.mem_of_getElem? (i := 6) rfl
theorem lk_X11_letter_7 : Cond.fieldLink RX11 110 "PartedHouseModel" "waits" "[Z" ∈ wsX11_letter := List.mem_of_getElem? (i := 7) rfl
theorem lk_X11_letter_1 : Cond.fieldLink RX11 242 "PartedHouseModel" "sent" "I" ∈ wsX11_letter := List.mem_of_getElem? (i := 1) rfl
abbrev rm_X11_letter : Room := { frames := 1, cells := 0, slots := 0, locals := 22 }
def vr_letter (a1 : Int32) (a2 : Int32) (g0 : jm_M) (Post : Int32 → Prop) : Prop := vr_in a1 0 ((g0 40 0) - 1) g0 (fun (r1 : Int32) => ((¬ r1 = 0) → (((a2.toInt < 0 ∨ 5 < a2.toInt) → (Post (-2000000000))) ∧ (a2 = 0 → ((vp_in a1 2000) ∧ (Post ((g0 41 a1.toNatClampNeg) / 8)))) ∧ (a2 = 1 → ((vp_in a1 2000) ∧ (Post ((g0 41 a1.toNatClampNeg) - (g0 41 a1.toNatClampNeg) / 8 * 8)))) ∧ (a2 = 2 → ((vp_in a1 2000) ∧ (Post (g0 42 a1.toNatClampNeg)))) ∧ (a2 = 3 → ((vp_in a1 2000) ∧ (Post (g0 43 a1.toNatClampNeg)))) ∧ (a2 = 4 → ((vp_in a1 2000) ∧ (Post (g0 44 a1.toNatClampNeg)))) ∧ (a2 = 5 → ((vp_in a1 2000) ∧ ((((g0 45 a1.toNatClampNeg) = 0) → (Post 0)) ∧ ((¬ (g0 45 a1.toNatClampNeg) = 0) → (Post 1))))))) ∧ ((r1 = 0) → (Post (-2000000000))))
set_option maxHeartbeats 4000000 in
set_option maxRecDepth 100000 in
theorem cr_letter (l : Launch) (D : va_G) (cs : Nat → ClassId) (Y X : va_W) (ad : Nat → Nat) (a1 : Int32) (a2 : Int32) (g0 : jm_M) (Post : Int32 → Prop) (hV : vr_letter a1 a2 g0 Post) : JI (wr_d Y X cs ad) D vwCl (jt_tys cs) l yX11_letter wsX11_letter rm_X11_letter 0 0 [.ref (ad 0), .int a1, .int a2] g0 (fun r g2 => Post r ∧ g2 = g0) := by
  refine jj_metI (cc := cX11_letter) (nL := 3) (ret := (some .int)) (by decide) rfl (Nat.le_of_ble_eq_true rfl) [(0, .ref (ad 0)), (1, .int a1), (2, .int a2)] rfl ?_
  intro p e s m args below meth c hC hnm
  rw [vr_letter] at hV
  refine jj_iload_n (pc2 := 1) hC dX11_letter_0 rfl 1 rfl rfl ?_
  refine jj_iconst (pc2 := 2) hC 0 dX11_letter_1 (by decide) rfl ?_
  refine jj_aload_n (pc2 := 3) hC dX11_letter_2 rfl 0 rfl rfl ?_
  refine rg_40 (pc2 := 6) hC hi_X11_letter_X11 lk_X11_letter_1 dX11_letter_3 rfl ?_
  refine jj_iconst (pc2 := 7) hC 1 dX11_letter_6 (by decide) rfl ?_
  refine jj_isub (pc2 := 8) hC dX11_letter_7 rfl ?_
  refine jj_cSIp (pc2 := 11) (wd := wr_d Y X cs ad) (g := g0) (rest := []) hC (cr_in l D cs Y X ad a1 0 ((g0 40 0) - 1) g0 _ hV) (va_cwS 3 hC.1.2.2.2.2 gX11_letter_X11_in rfl rfl rfl (by decide +kernel) ⟨by decide, by decide⟩) rfl (Nat.le_of_ble_eq_true rfl) _ rfl dX11_letter_8 ⟨Nat.zero_le _, Nat.zero_le _⟩ rfl (fun r1 hV => ?_)
  refine jj_if_ne (pc2 := 14) hC 17 dX11_letter_11 (by decide) rfl (fun h2 => ?_) (fun h2 => ?_)
  · have hV := hV.1 h2
    refine jj_iload_n (pc2 := 18) hC dX11_letter_17 rfl 2 rfl rfl ?_
    by_cases h3 : a2.toInt < 0 ∨ 5 < a2.toInt
    · have hV := hV.1 h3
      refine jj_tabOut hC 112 dX11_letter_18 h3 (by decide) ?_
      refine jj_ldc (pc2 := 114) hC lk_X11_letter_2 dX11_letter_112 rfl ?_
      exact jj_iret hC dX11_letter_114 ⟨hV, rfl⟩
    have hV := hV.2
    rcases jj_sw_0_5 a2 h3 with hs | hs | hs | hs | hs | hs
    · have hV := hV.1 hs
      refine jj_tabIn (off := 38) hC 56 dX11_letter_18 (fun q => h3 (Or.inl q)) (fun q => h3 (Or.inr q)) (by rw [hs]; decide) (by decide) ?_
      refine jj_aload_n (pc2 := 57) hC dX11_letter_56 rfl 0 rfl rfl ?_
      refine rg_41 (pc2 := 60) hC hi_X11_letter_X11 lk_X11_letter_3 dX11_letter_57 rfl ?_
      refine jj_iload_n (pc2 := 61) hC dX11_letter_60 rfl 1 rfl rfl ?_
      refine ra_41 (pc2 := 62) hC hV.1 dX11_letter_61 rfl ?_
      have hV := hV.2
      refine jj_bipush (pc2 := 64) hC 8 dX11_letter_62 (by decide) rfl ?_
      refine jj_idiv (pc2 := 65) hC dX11_letter_64 (by decide) rfl ?_
      exact jj_iret hC dX11_letter_65 ⟨hV, rfl⟩
    · have hV := hV.2.1 hs
      refine jj_tabIn (off := 48) hC 66 dX11_letter_18 (fun q => h3 (Or.inl q)) (fun q => h3 (Or.inr q)) (by rw [hs]; decide) (by decide) ?_
      refine jj_aload_n (pc2 := 67) hC dX11_letter_66 rfl 0 rfl rfl ?_
      refine rg_41 (pc2 := 70) hC hi_X11_letter_X11 lk_X11_letter_3 dX11_letter_67 rfl ?_
      refine jj_iload_n (pc2 := 71) hC dX11_letter_70 rfl 1 rfl rfl ?_
      refine ra_41 (pc2 := 72) hC hV.1 dX11_letter_71 rfl ?_
      have hV := hV.2
      refine jj_bipush (pc2 := 74) hC 8 dX11_letter_72 (by decide) rfl ?_
      refine jj_irem (pc2 := 75) hC dX11_letter_74 (by decide) rfl ?_
      exact jj_iret hC dX11_letter_75 ⟨hV, rfl⟩
    · have hV := hV.2.2.1 hs
      refine jj_tabIn (off := 58) hC 76 dX11_letter_18 (fun q => h3 (Or.inl q)) (fun q => h3 (Or.inr q)) (by rw [hs]; decide) (by decide) ?_
      refine jj_aload_n (pc2 := 77) hC dX11_letter_76 rfl 0 rfl rfl ?_
      refine rg_42 (pc2 := 80) hC hi_X11_letter_X11 lk_X11_letter_4 dX11_letter_77 rfl ?_
      refine jj_iload_n (pc2 := 81) hC dX11_letter_80 rfl 1 rfl rfl ?_
      refine ra_42 (pc2 := 82) hC hV.1 dX11_letter_81 rfl ?_
      have hV := hV.2
      exact jj_iret hC dX11_letter_82 ⟨hV, rfl⟩
    · have hV := hV.2.2.2.1 hs
      refine jj_tabIn (off := 65) hC 83 dX11_letter_18 (fun q => h3 (Or.inl q)) (fun q => h3 (Or.inr q)) (by rw [hs]; decide) (by decide) ?_
      refine jj_aload_n (pc2 := 84) hC dX11_letter_83 rfl 0 rfl rfl ?_
      refine rg_43 (pc2 := 87) hC hi_X11_letter_X11 lk_X11_letter_5 dX11_letter_84 rfl ?_
      refine jj_iload_n (pc2 := 88) hC dX11_letter_87 rfl 1 rfl rfl ?_
      refine ra_43 (pc2 := 89) hC hV.1 dX11_letter_88 rfl ?_
      have hV := hV.2
      exact jj_iret hC dX11_letter_89 ⟨hV, rfl⟩
    · have hV := hV.2.2.2.2.1 hs
      refine jj_tabIn (off := 72) hC 90 dX11_letter_18 (fun q => h3 (Or.inl q)) (fun q => h3 (Or.inr q)) (by rw [hs]; decide) (by decide) ?_
      refine jj_aload_n (pc2 := 91) hC dX11_letter_90 rfl 0 rfl rfl ?_
      refine rg_44 (pc2 := 94) hC hi_X11_letter_X11 lk_X11_letter_6 dX11_letter_91 rfl ?_
      refine jj_iload_n (pc2 := 95) hC dX11_letter_94 rfl 1 rfl rfl ?_
      refine ra_44 (pc2 := 96) hC hV.1 dX11_letter_95 rfl ?_
      have hV := hV.2
      exact jj_iret hC dX11_letter_96 ⟨hV, rfl⟩
    · have hV := hV.2.2.2.2.2 hs
      refine jj_tabIn (off := 79) hC 97 dX11_letter_18 (fun q => h3 (Or.inl q)) (fun q => h3 (Or.inr q)) (by rw [hs]; decide) (by decide) ?_
      refine jj_aload_n (pc2 := 98) hC dX11_letter_97 rfl 0 rfl rfl ?_
      refine rg_45 (pc2 := 101) hC hi_X11_letter_X11 lk_X11_letter_7 dX11_letter_98 rfl ?_
      refine jj_iload_n (pc2 := 102) hC dX11_letter_101 rfl 1 rfl rfl ?_
      refine ra_45 (pc2 := 103) hC hV.1 dX11_letter_102 rfl ?_
      have hV := hV.2
      refine jj_if_eq (pc2 := 106) hC 110 dX11_letter_103 (by decide) rfl (fun h4 => ?_) (fun h4 => ?_)
      · have hV := hV.1 h4
        refine jj_iconst (pc2 := 111) hC 0 dX11_letter_110 (by decide) rfl ?_
        exact jj_iret hC dX11_letter_111 ⟨hV, rfl⟩
      · have hV := hV.2 h4
        refine jj_iconst (pc2 := 107) hC 1 dX11_letter_106 (by decide) rfl ?_
        refine jj_goto hC 111 dX11_letter_107 (by decide) ?_
        exact jj_iret hC dX11_letter_111 ⟨hV, rfl⟩
  · have hV := hV.2 h2
    refine jj_ldc (pc2 := 16) hC lk_X11_letter_2 dX11_letter_14 rfl ?_
    exact jj_iret hC dX11_letter_16 ⟨hV, rfl⟩
theorem hi_X11_isLaw_X11 : ∀ w ∈ u_ws RX11 TX11 63, w ∈ wsX11_isLaw := fun _ h => List.mem_cons_of_mem _ (List.mem_append_right _ h)
theorem lk_X11_isLaw_1 : Cond.fieldLink RX11 255 "PartedHouseModel" "laws" "I" ∈ wsX11_isLaw := List.mem_of_getElem? (i := 1) rfl
abbrev rm_X11_isLaw : Room := { frames := 1, cells := 0, slots := 0, locals := 22 }
def vr_isLaw (a1 : Int32) (g0 : jm_M) (Post : Int32 → Prop) : Prop := vr_in a1 0 ((g0 46 0) - 1) g0 (fun (r1 : Int32) => (jj_nb r1) ∧ (Post r1))
set_option maxHeartbeats 4000000 in
set_option maxRecDepth 100000 in
theorem cr_isLaw (l : Launch) (D : va_G) (cs : Nat → ClassId) (Y X : va_W) (ad : Nat → Nat) (a1 : Int32) (g0 : jm_M) (Post : Int32 → Prop) (hV : vr_isLaw a1 g0 Post) : JI (wr_d Y X cs ad) D vwCl (jt_tys cs) l yX11_isLaw wsX11_isLaw rm_X11_isLaw 0 0 [.ref (ad 0), .int a1] g0 (fun r g2 => Post r ∧ g2 = g0) := by
  refine jj_metI (cc := cX11_isLaw) (nL := 2) (ret := (some .boolean)) (by decide) rfl (Nat.le_of_ble_eq_true rfl) [(0, .ref (ad 0)), (1, .int a1)] rfl ?_
  intro p e s m args below meth c hC hnm
  rw [vr_isLaw] at hV
  refine jj_iload_n (pc2 := 1) hC dX11_isLaw_0 rfl 1 rfl rfl ?_
  refine jj_iconst (pc2 := 2) hC 0 dX11_isLaw_1 (by decide) rfl ?_
  refine jj_aload_n (pc2 := 3) hC dX11_isLaw_2 rfl 0 rfl rfl ?_
  refine rg_46 (pc2 := 6) hC hi_X11_isLaw_X11 lk_X11_isLaw_1 dX11_isLaw_3 rfl ?_
  refine jj_iconst (pc2 := 7) hC 1 dX11_isLaw_6 (by decide) rfl ?_
  refine jj_isub (pc2 := 8) hC dX11_isLaw_7 rfl ?_
  refine jj_cSIp (pc2 := 11) (wd := wr_d Y X cs ad) (g := g0) (rest := []) hC (cr_in l D cs Y X ad a1 0 ((g0 46 0) - 1) g0 _ hV) (va_cwS 3 hC.1.2.2.2.2 gX11_isLaw_X11_in rfl rfl rfl (by decide +kernel) ⟨by decide, by decide⟩) rfl (Nat.le_of_ble_eq_true rfl) _ rfl dX11_isLaw_8 ⟨Nat.zero_le _, Nat.zero_le _⟩ rfl (fun r1 hV => ?_)
  exact jj_zret hC hV.1 dX11_isLaw_11 ⟨hV.2, rfl⟩
theorem hi_X11_law_X11 : ∀ w ∈ u_ws RX11 TX11 63, w ∈ wsX11_law := fun _ h => List.mem_cons_of_mem _ (List.mem_append_right _ h)
theorem lk_X11_law_1 : Cond.fieldLink RX11 255 "PartedHouseModel" "laws" "I" ∈ wsX11_law := List.mem_of_getElem? (i := 1) rfl
theorem lk_X11_law_2 : Cond.fieldLink RX11 113 "PartedHouseModel" "lawLeast" "[I" ∈ wsX11_law := List.mem_of_getElem? (i := 2) rfl
abbrev rm_X11_law : Room := { frames := 0, cells := 0, slots := 0, locals := 0 }
def vr_law (a1 : Int32) (g0 : jm_M) (Post : Int32 → jm_M → Prop) : Prop := ((¬ (g0 46 0) = 10) → ((vp_in (g0 46 0) 10) ∧ (∀ g2 : jm_M, g2 = jm_a g0 47 (g0 46 0) a1 → (∀ g3 : jm_M, g3 = jm_s g2 46 ((g2 46 0) + 1) → (Post ((g3 46 0) - 1) g3))))) ∧ (((g0 46 0) = 10) → (Post (-3) g0))
set_option maxHeartbeats 4000000 in
set_option maxRecDepth 100000 in
theorem cr_law (l : Launch) (D : va_G) (cs : Nat → ClassId) (Y X : va_W) (ad : Nat → Nat) (a1 : Int32) (g0 : jm_M) (Post : Int32 → jm_M → Prop) (hV : vr_law a1 g0 Post) : JI (wr_d Y X cs ad) D vwCl (jt_tys cs) l yX11_law wsX11_law rm_X11_law 0 0 [.ref (ad 0), .int a1] g0 Post := by
  refine jj_metI (cc := cX11_law) (nL := 2) (ret := (some .int)) (by decide) rfl (Nat.le_of_ble_eq_true rfl) [(0, .ref (ad 0)), (1, .int a1)] rfl ?_
  intro p e s m args below meth c hC hnm
  rw [vr_law] at hV
  refine jj_aload_n (pc2 := 1) hC dX11_law_0 rfl 0 rfl rfl ?_
  refine rg_46 (pc2 := 4) hC hi_X11_law_X11 lk_X11_law_1 dX11_law_1 rfl ?_
  refine jj_bipush (pc2 := 6) hC 10 dX11_law_4 (by decide) rfl ?_
  refine jj_icmp_ne (pc2 := 9) hC 12 dX11_law_6 (by decide) rfl (fun h1 => ?_) (fun h1 => ?_)
  · have hV := hV.1 h1
    refine jj_aload_n (pc2 := 13) hC dX11_law_12 rfl 0 rfl rfl ?_
    refine rg_47 (pc2 := 16) hC hi_X11_law_X11 lk_X11_law_2 dX11_law_13 rfl ?_
    refine jj_aload_n (pc2 := 17) hC dX11_law_16 rfl 0 rfl rfl ?_
    refine rg_46 (pc2 := 20) hC hi_X11_law_X11 lk_X11_law_1 dX11_law_17 rfl ?_
    refine jj_iload_n (pc2 := 21) hC dX11_law_20 rfl 1 rfl rfl ?_
    refine rs_47 (pc2 := 22) hC hV.1 dX11_law_21 rfl (fun g2 eg2 => ?_)
    have hV := hV.2 g2 eg2
    refine jj_aload_n (pc2 := 23) hC dX11_law_22 rfl 0 rfl rfl ?_
    refine jj_dup (pc2 := 24) hC dX11_law_23 rfl rfl ?_
    refine rg_46 (pc2 := 27) hC hi_X11_law_X11 lk_X11_law_1 dX11_law_24 rfl ?_
    refine jj_iconst (pc2 := 28) hC 1 dX11_law_27 (by decide) rfl ?_
    refine jj_iadd (pc2 := 29) hC dX11_law_28 rfl ?_
    refine rp_46 (pc2 := 32) hC hi_X11_law_X11 lk_X11_law_1 dX11_law_29 rfl (fun g3 eg3 => ?_)
    have hV := hV g3 eg3
    refine jj_aload_n (pc2 := 33) hC dX11_law_32 rfl 0 rfl rfl ?_
    refine rg_46 (pc2 := 36) hC hi_X11_law_X11 lk_X11_law_1 dX11_law_33 rfl ?_
    refine jj_iconst (pc2 := 37) hC 1 dX11_law_36 (by decide) rfl ?_
    refine jj_isub (pc2 := 38) hC dX11_law_37 rfl ?_
    exact jj_iret hC dX11_law_38 hV
  · have hV := hV.2 h1
    refine jj_bipush (pc2 := 11) hC (-3) dX11_law_9 (by decide) rfl ?_
    exact jj_iret hC dX11_law_11 hV
theorem hi_X11_term_X11 : ∀ w ∈ u_ws RX11 TX11 63, w ∈ wsX11_term := fun _ h => List.mem_cons_of_mem _ (List.mem_append_right _ h)
theorem lk_X11_term_1 : Cond.fieldLink RX11 116 "PartedHouseModel" "terms" "[I" ∈ wsX11_term := List.mem_of_getElem? (i := 1) rfl
theorem lk_X11_term_3 : Cond.fieldLink RX11 122 "PartedHouseModel" "factor" "[I" ∈ wsX11_term := List.mem_of_getElem? (i := 3) rfl
theorem lk_X11_term_2 : Cond.fieldLink RX11 119 "PartedHouseModel" "termCell" "[I" ∈ wsX11_term := List.mem_of_getElem? (i := 2) rfl
abbrev rm_X11_term : Room := { frames := 2, cells := 0, slots := 0, locals := 43 }
def vr_term (a1 : Int32) (a2 : Int32) (a3 : Int32) (a4 : Int32) (g0 : jm_M) (Post : Int32 → jm_M → Prop) : Prop := vr_isLaw a1 g0 (fun (r1 : Int32) => ((r1 = 0) → (Post (-1) g0)) ∧ ((¬ r1 = 0) → (vr_isTable a2 g0 (fun (r3 : Int32) => ((r3 = 0) → (Post (-1) g0)) ∧ ((¬ r3 = 0) → (vr_in a3 0 7 g0 (fun (r5 : Int32) => ((r5 = 0) → (Post (-1) g0)) ∧ ((¬ r5 = 0) → (vr_in a4 (-9) 9 g0 (fun (r7 : Int32) => ((¬ r7 = 0) → ((vp_in a1 10) ∧ (((¬ (g0 48 a1.toNatClampNeg) = 6) → ((vp_in a1 10) ∧ ((vp_in (((6 : Int32) * a1) + (g0 48 a1.toNatClampNeg)) 60) ∧ (∀ g10 : jm_M, g10 = jm_a g0 49 (((6 : Int32) * a1) + (g0 48 a1.toNatClampNeg)) (((8 : Int32) * a2) + a3) → ((vp_in a1 10) ∧ ((vp_in (((6 : Int32) * a1) + (g10 48 a1.toNatClampNeg)) 60) ∧ (∀ g11 : jm_M, g11 = jm_a g10 50 (((6 : Int32) * a1) + (g10 48 a1.toNatClampNeg)) a4 → ((vp_in a1 10) ∧ ((vp_in a1 10) ∧ (∀ g12 : jm_M, g12 = jm_a g11 48 a1 ((g11 48 a1.toNatClampNeg) + 1) → ((vp_in a1 10) ∧ (Post (g12 48 a1.toNatClampNeg) g12)))))))))))) ∧ (((g0 48 a1.toNatClampNeg) = 6) → (Post (-3) g0))))) ∧ ((r7 = 0) → (Post (-1) g0))))))))))))
set_option maxHeartbeats 4000000 in
set_option maxRecDepth 100000 in
theorem cr_term (l : Launch) (D : va_G) (cs : Nat → ClassId) (Y X : va_W) (ad : Nat → Nat) (a1 : Int32) (a2 : Int32) (a3 : Int32) (a4 : Int32) (g0 : jm_M) (Post : Int32 → jm_M → Prop) (hV : vr_term a1 a2 a3 a4 g0 Post) : JI (wr_d Y X cs ad) D vwCl (jt_tys cs) l yX11_term wsX11_term rm_X11_term 0 0 [.ref (ad 0), .int a1, .int a2, .int a3, .int a4] g0 Post := by
  refine jj_metI (cc := cX11_term) (nL := 5) (ret := (some .int)) (by decide) rfl (Nat.le_of_ble_eq_true rfl) [(0, .ref (ad 0)), (1, .int a1), (2, .int a2), (3, .int a3), (4, .int a4)] rfl ?_
  intro p e s m args below meth c hC hnm
  rw [vr_term] at hV
  refine jj_aload_n (pc2 := 1) hC dX11_term_0 rfl 0 rfl rfl ?_
  refine jj_iload_n (pc2 := 2) hC dX11_term_1 rfl 1 rfl rfl ?_
  refine jj_cVIp (pc2 := 5) (wd := wr_d Y X cs ad) (g := g0) (rest := []) hC (Y.length + 0) (jx_at (V := wr_W cs ad g0) rfl) rfl rfl (cr_isLaw l D cs Y X ad a1 g0 _ hV) (cwV 1 hC.1.2.2.2.2 gX11_term_X11_isLaw rfl rfl rfl (by decide +kernel) ⟨by decide, by decide⟩) rfl (Nat.le_of_ble_eq_true rfl) _ rfl dX11_term_2 ⟨Nat.zero_le _, Nat.zero_le _⟩ rfl (fun r1 hV => ?_)
  refine jj_if_eq (pc2 := 8) hC 38 dX11_term_5 (by decide) rfl (fun h2 => ?_) (fun h2 => ?_)
  · have hV := hV.1 h2
    refine jj_iconst (pc2 := 39) hC (-1) dX11_term_38 (by decide) rfl ?_
    exact jj_iret hC dX11_term_39 hV
  · have hV := hV.2 h2
    refine jj_aload_n (pc2 := 9) hC dX11_term_8 rfl 0 rfl rfl ?_
    refine jj_iload_n (pc2 := 10) hC dX11_term_9 rfl 2 rfl rfl ?_
    refine jj_cVIp (pc2 := 13) (wd := wr_d Y X cs ad) (g := g0) (rest := []) hC (Y.length + 0) (jx_at (V := wr_W cs ad g0) rfl) rfl rfl (cr_isTable l D cs Y X ad a2 g0 _ hV) (cwV 1 hC.1.2.2.2.2 gX11_term_X11_isTable rfl rfl rfl (by decide +kernel) ⟨by decide, by decide⟩) rfl (Nat.le_of_ble_eq_true rfl) _ rfl dX11_term_10 ⟨Nat.zero_le _, Nat.zero_le _⟩ rfl (fun r3 hV => ?_)
    refine jj_if_eq (pc2 := 16) hC 38 dX11_term_13 (by decide) rfl (fun h4 => ?_) (fun h4 => ?_)
    · have hV := hV.1 h4
      refine jj_iconst (pc2 := 39) hC (-1) dX11_term_38 (by decide) rfl ?_
      exact jj_iret hC dX11_term_39 hV
    · have hV := hV.2 h4
      refine jj_iload_n (pc2 := 17) hC dX11_term_16 rfl 3 rfl rfl ?_
      refine jj_iconst (pc2 := 18) hC 0 dX11_term_17 (by decide) rfl ?_
      refine jj_bipush (pc2 := 20) hC 7 dX11_term_18 (by decide) rfl ?_
      refine jj_cSIp (pc2 := 23) (wd := wr_d Y X cs ad) (g := g0) (rest := []) hC (cr_in l D cs Y X ad a3 0 7 g0 _ hV) (va_cwS 3 hC.1.2.2.2.2 gX11_term_X11_in rfl rfl rfl (by decide +kernel) ⟨by decide, by decide⟩) rfl (Nat.le_of_ble_eq_true rfl) _ rfl dX11_term_20 ⟨Nat.zero_le _, Nat.zero_le _⟩ rfl (fun r5 hV => ?_)
      refine jj_if_eq (pc2 := 26) hC 38 dX11_term_23 (by decide) rfl (fun h6 => ?_) (fun h6 => ?_)
      · have hV := hV.1 h6
        refine jj_iconst (pc2 := 39) hC (-1) dX11_term_38 (by decide) rfl ?_
        exact jj_iret hC dX11_term_39 hV
      · have hV := hV.2 h6
        refine jj_iload (pc2 := 28) hC dX11_term_26 4 rfl rfl ?_
        refine jj_bipush (pc2 := 30) hC (-9) dX11_term_28 (by decide) rfl ?_
        refine jj_bipush (pc2 := 32) hC 9 dX11_term_30 (by decide) rfl ?_
        refine jj_cSIp (pc2 := 35) (wd := wr_d Y X cs ad) (g := g0) (rest := []) hC (cr_in l D cs Y X ad a4 (-9) 9 g0 _ hV) (va_cwS 3 hC.1.2.2.2.2 gX11_term_X11_in rfl rfl rfl (by decide +kernel) ⟨by decide, by decide⟩) rfl (Nat.le_of_ble_eq_true rfl) _ rfl dX11_term_32 ⟨Nat.zero_le _, Nat.zero_le _⟩ rfl (fun r7 hV => ?_)
        refine jj_if_ne (pc2 := 38) hC 40 dX11_term_35 (by decide) rfl (fun h8 => ?_) (fun h8 => ?_)
        · have hV := hV.1 h8
          refine jj_aload_n (pc2 := 41) hC dX11_term_40 rfl 0 rfl rfl ?_
          refine rg_48 (pc2 := 44) hC hi_X11_term_X11 lk_X11_term_1 dX11_term_41 rfl ?_
          refine jj_iload_n (pc2 := 45) hC dX11_term_44 rfl 1 rfl rfl ?_
          refine ra_48 (pc2 := 46) hC hV.1 dX11_term_45 rfl ?_
          have hV := hV.2
          refine jj_bipush (pc2 := 48) hC 6 dX11_term_46 (by decide) rfl ?_
          refine jj_icmp_ne (pc2 := 51) hC 54 dX11_term_48 (by decide) rfl (fun h9 => ?_) (fun h9 => ?_)
          · have hV := hV.1 h9
            refine jj_aload_n (pc2 := 55) hC dX11_term_54 rfl 0 rfl rfl ?_
            refine rg_49 (pc2 := 58) hC hi_X11_term_X11 lk_X11_term_2 dX11_term_55 rfl ?_
            refine jj_bipush (pc2 := 60) hC 6 dX11_term_58 (by decide) rfl ?_
            refine jj_iload_n (pc2 := 61) hC dX11_term_60 rfl 1 rfl rfl ?_
            refine jj_imul (pc2 := 62) hC dX11_term_61 rfl ?_
            refine jj_aload_n (pc2 := 63) hC dX11_term_62 rfl 0 rfl rfl ?_
            refine rg_48 (pc2 := 66) hC hi_X11_term_X11 lk_X11_term_1 dX11_term_63 rfl ?_
            refine jj_iload_n (pc2 := 67) hC dX11_term_66 rfl 1 rfl rfl ?_
            refine ra_48 (pc2 := 68) hC hV.1 dX11_term_67 rfl ?_
            have hV := hV.2
            refine jj_iadd (pc2 := 69) hC dX11_term_68 rfl ?_
            refine jj_bipush (pc2 := 71) hC 8 dX11_term_69 (by decide) rfl ?_
            refine jj_iload_n (pc2 := 72) hC dX11_term_71 rfl 2 rfl rfl ?_
            refine jj_imul (pc2 := 73) hC dX11_term_72 rfl ?_
            refine jj_iload_n (pc2 := 74) hC dX11_term_73 rfl 3 rfl rfl ?_
            refine jj_iadd (pc2 := 75) hC dX11_term_74 rfl ?_
            refine rs_49 (pc2 := 76) hC hV.1 dX11_term_75 rfl (fun g10 eg10 => ?_)
            have hV := hV.2 g10 eg10
            refine jj_aload_n (pc2 := 77) hC dX11_term_76 rfl 0 rfl rfl ?_
            refine rg_50 (pc2 := 80) hC hi_X11_term_X11 lk_X11_term_3 dX11_term_77 rfl ?_
            refine jj_bipush (pc2 := 82) hC 6 dX11_term_80 (by decide) rfl ?_
            refine jj_iload_n (pc2 := 83) hC dX11_term_82 rfl 1 rfl rfl ?_
            refine jj_imul (pc2 := 84) hC dX11_term_83 rfl ?_
            refine jj_aload_n (pc2 := 85) hC dX11_term_84 rfl 0 rfl rfl ?_
            refine rg_48 (pc2 := 88) hC hi_X11_term_X11 lk_X11_term_1 dX11_term_85 rfl ?_
            refine jj_iload_n (pc2 := 89) hC dX11_term_88 rfl 1 rfl rfl ?_
            refine ra_48 (pc2 := 90) hC hV.1 dX11_term_89 rfl ?_
            have hV := hV.2
            refine jj_iadd (pc2 := 91) hC dX11_term_90 rfl ?_
            refine jj_iload (pc2 := 93) hC dX11_term_91 4 rfl rfl ?_
            refine rs_50 (pc2 := 94) hC hV.1 dX11_term_93 rfl (fun g11 eg11 => ?_)
            have hV := hV.2 g11 eg11
            refine jj_aload_n (pc2 := 95) hC dX11_term_94 rfl 0 rfl rfl ?_
            refine rg_48 (pc2 := 98) hC hi_X11_term_X11 lk_X11_term_1 dX11_term_95 rfl ?_
            refine jj_iload_n (pc2 := 99) hC dX11_term_98 rfl 1 rfl rfl ?_
            refine jj_dup2 (pc2 := 100) hC dX11_term_99 rfl rfl rfl ?_
            refine ra_48 (pc2 := 101) hC hV.1 dX11_term_100 rfl ?_
            have hV := hV.2
            refine jj_iconst (pc2 := 102) hC 1 dX11_term_101 (by decide) rfl ?_
            refine jj_iadd (pc2 := 103) hC dX11_term_102 rfl ?_
            refine rs_48 (pc2 := 104) hC hV.1 dX11_term_103 rfl (fun g12 eg12 => ?_)
            have hV := hV.2 g12 eg12
            refine jj_aload_n (pc2 := 105) hC dX11_term_104 rfl 0 rfl rfl ?_
            refine rg_48 (pc2 := 108) hC hi_X11_term_X11 lk_X11_term_1 dX11_term_105 rfl ?_
            refine jj_iload_n (pc2 := 109) hC dX11_term_108 rfl 1 rfl rfl ?_
            refine ra_48 (pc2 := 110) hC hV.1 dX11_term_109 rfl ?_
            have hV := hV.2
            exact jj_iret hC dX11_term_110 hV
          · have hV := hV.2 h9
            refine jj_bipush (pc2 := 53) hC (-3) dX11_term_51 (by decide) rfl ?_
            exact jj_iret hC dX11_term_53 hV
        · have hV := hV.2 h8
          refine jj_iconst (pc2 := 39) hC (-1) dX11_term_38 (by decide) rfl ?_
          exact jj_iret hC dX11_term_39 hV
theorem hi_X11_doesHold_X11 : ∀ w ∈ u_ws RX11 TX11 63, w ∈ wsX11_doesHold := fun _ h => List.mem_cons_of_mem _ (List.mem_append_right _ h)
theorem lk_X11_doesHold_3 : Cond.fieldLink RX11 119 "PartedHouseModel" "termCell" "[I" ∈ wsX11_doesHold := List.mem_of_getElem? (i := 3) rfl
theorem lk_X11_doesHold_2 : Cond.fieldLink RX11 122 "PartedHouseModel" "factor" "[I" ∈ wsX11_doesHold := List.mem_of_getElem? (i := 2) rfl
theorem lk_X11_doesHold_1 : Cond.fieldLink RX11 116 "PartedHouseModel" "terms" "[I" ∈ wsX11_doesHold := List.mem_of_getElem? (i := 1) rfl
theorem lk_X11_doesHold_4 : Cond.fieldLink RX11 113 "PartedHouseModel" "lawLeast" "[I" ∈ wsX11_doesHold := List.mem_of_getElem? (i := 4) rfl
abbrev rm_X11_doesHold : Room := { frames := 0, cells := 0, slots := 0, locals := 0 }
def vr_doesHold_8 (kk : Nat) (x1 : Int32) (g0 : jm_M) (K52 : Int64 → Prop) (Post : Int32 → Prop) : Nat → Int64 → Int32 → Prop
  | 0, _, _ => False
  | f + 1, x3, x5 => (vp_in x1 10) ∧ ((((((6 : Int32) * x1) + (g0 48 x1.toNatClampNeg)) ≤ x5) → (K52 x3)) ∧ ((¬ (((6 : Int32) * x1) + (g0 48 x1.toNatClampNeg)) ≤ x5) → ((vp_in x5 60) ∧ ((vp_in x5 60) ∧ ((vp_in (g0 49 x5.toNatClampNeg) 128) ∧ (∀ y3 : Int64, y3 = x3 + (((g0 50 x5.toNatClampNeg).toInt64) * ((g0 kk (g0 49 x5.toNatClampNeg).toNatClampNeg).toInt64)) → (vr_doesHold_8 kk x1 g0 K52 Post f y3 (x5 + 1))))))))
def vr_doesHold (kk : Nat) (a1 : Int32) (g0 : jm_M) (Post : Int32 → Prop) : Prop := ∀ y1 : Int32, y1 = (6 : Int32) * a1 → (∃ n6 : Nat, vr_doesHold_8 kk a1 g0 (fun (y4 : Int64) => (vp_in a1 10) ∧ ((((lg_cmp y4 ((g0 47 a1.toNatClampNeg).toInt64)) < 0) → (Post 0)) ∧ ((¬ (lg_cmp y4 ((g0 47 a1.toNatClampNeg).toInt64)) < 0) → (Post 1)))) Post n6 0 y1)
set_option maxHeartbeats 4000000 in
set_option maxRecDepth 100000 in
theorem ar_doesHold_11_8 {p : Program} {l : Launch} {e : Env} {s : State} {m : MethodId} {args : Array Value} {below : List Frame} {meth : Method} {c : Code} {D : va_G} {cs : Nat → ClassId} {Y X : va_W} {ad : Nat → Nat} {g0 : jm_M} (hC : JC p s m args meth c D vwCl (va_A (wr_d Y X cs ad g0) s.heap.size) 6 cX11_doesHold (some .boolean) wsX11_doesHold RX11 (jt_tys cs)) (x1 : Int32) (Post : Int32 → Prop) (K52 : Int64 → Prop) (hK52 : ∀ (z3 : Int64) , K52 z3 → JJ (wr_d Y X cs ad) p l e rm_X11_doesHold s m args below meth c D vwCl (va_A (wr_d Y X cs ad g0) s.heap.size) 6 0 0 (MQ below (jj_QI (wr_d Y X cs ad) D vwCl (jt_tys cs) g0 s.heap.size (fun r g2 => Post r ∧ g2 = g0)) args s 0 0 (va_A (wr_d Y X cs ad g0) s.heap.size)) 52 [(0, .ref (ad 0)), (1, .int x1), (3, .long z3)] [] g0) : ∀ (f : Nat) (x3 : Int64) (x5 : Int32), vr_doesHold_8 11 x1 g0 K52 Post f x3 x5 → JJ (wr_d Y X cs ad) p l e rm_X11_doesHold s m args below meth c D vwCl (va_A (wr_d Y X cs ad g0) s.heap.size) 6 0 0 (MQ below (jj_QI (wr_d Y X cs ad) D vwCl (jt_tys cs) g0 s.heap.size (fun r g2 => Post r ∧ g2 = g0)) args s 0 0 (va_A (wr_d Y X cs ad g0) s.heap.size)) 8 [(0, .ref (ad 0)), (1, .int x1), (2, .ref (ad 12)), (3, .long x3), (5, .int x5)] [] g0 := by
  intro f
  induction f with
  | zero => intro x3 x5 hV; exact hV.elim
  | succ f ih =>
    intro x3 x5 hV
    rw [vr_doesHold_8] at hV
    refine jj_iload (pc2 := 10) hC dX11_doesHold_8 4 rfl rfl ?_
    refine jj_bipush (pc2 := 12) hC 6 dX11_doesHold_10 (by decide) rfl ?_
    refine jj_iload_n (pc2 := 13) hC dX11_doesHold_12 rfl 1 rfl rfl ?_
    refine jj_imul (pc2 := 14) hC dX11_doesHold_13 rfl ?_
    refine jj_aload_n (pc2 := 15) hC dX11_doesHold_14 rfl 0 rfl rfl ?_
    refine rg_48 (pc2 := 18) hC hi_X11_doesHold_X11 lk_X11_doesHold_1 dX11_doesHold_15 rfl ?_
    refine jj_iload_n (pc2 := 19) hC dX11_doesHold_18 rfl 1 rfl rfl ?_
    refine ra_48 (pc2 := 20) hC hV.1 dX11_doesHold_19 rfl ?_
    have hV := hV.2
    refine jj_iadd (pc2 := 21) hC dX11_doesHold_20 rfl ?_
    refine jj_icmp_ge (pc2 := 24) hC 52 dX11_doesHold_21 (by decide) rfl (fun h2 => ?_) (fun h2 => ?_)
    · have hV := hV.1 h2
      exact jj_sub (lv2 := [(0, .ref (ad 0)), (1, .int x1), (3, .long x3)]) [0, 1, 3] rfl (hK52 x3 hV)
    · have hV := hV.2 h2
      refine jj_lload_n (pc2 := 25) hC dX11_doesHold_24 rfl 3 rfl rfl ?_
      refine jj_aload_n (pc2 := 26) hC dX11_doesHold_25 rfl 0 rfl rfl ?_
      refine rg_50 (pc2 := 29) hC hi_X11_doesHold_X11 lk_X11_doesHold_2 dX11_doesHold_26 rfl ?_
      refine jj_iload (pc2 := 31) hC dX11_doesHold_29 4 rfl rfl ?_
      refine ra_50 (pc2 := 32) hC hV.1 dX11_doesHold_31 rfl ?_
      have hV := hV.2
      refine jj_i2l (pc2 := 33) hC dX11_doesHold_32 rfl ?_
      refine jj_aload_n (pc2 := 34) hC dX11_doesHold_33 rfl 2 rfl rfl ?_
      refine jj_aload_n (pc2 := 35) hC dX11_doesHold_34 rfl 0 rfl rfl ?_
      refine rg_49 (pc2 := 38) hC hi_X11_doesHold_X11 lk_X11_doesHold_3 dX11_doesHold_35 rfl ?_
      refine jj_iload (pc2 := 40) hC dX11_doesHold_38 4 rfl rfl ?_
      refine ra_49 (pc2 := 41) hC hV.1 dX11_doesHold_40 rfl ?_
      have hV := hV.2
      refine ra_11 (pc2 := 42) hC hV.1 dX11_doesHold_41 rfl ?_
      have hV := hV.2
      refine jj_i2l (pc2 := 43) hC dX11_doesHold_42 rfl ?_
      refine jj_lmul (pc2 := 44) hC dX11_doesHold_43 rfl ?_
      refine jj_ladd (pc2 := 45) hC dX11_doesHold_44 rfl ?_
      refine jj_topl (fun y3 ey3 => ?_)
      have hV := hV y3 ey3
      refine jj_lstore_n (pc2 := 46) hC [(3, .long y3), (0, .ref (ad 0)), (1, .int x1), (2, .ref (ad 12)), (5, .int x5)] dX11_doesHold_45 rfl (by decide) rfl rfl ?_
      refine jj_iinc (pc2 := 49) hC (x5 + 1) [(5, .int (x5 + 1)), (3, .long y3), (0, .ref (ad 0)), (1, .int x1), (2, .ref (ad 12))] dX11_doesHold_46 4 rfl rfl (by decide) rfl rfl ?_
      refine jj_goto hC 8 dX11_doesHold_49 (by decide) ?_
      exact jj_sub (lv2 := [(0, .ref (ad 0)), (1, .int x1), (2, .ref (ad 12)), (3, .long y3), (5, .int (x5 + 1))]) [2, 3, 4, 1, 0] rfl (ih y3 (x5 + 1) hV)
set_option maxHeartbeats 4000000 in
set_option maxRecDepth 100000 in
theorem cr_doesHold_11 (l : Launch) (D : va_G) (cs : Nat → ClassId) (Y X : va_W) (ad : Nat → Nat) (a1 : Int32) (g0 : jm_M) (Post : Int32 → Prop) (hV : vr_doesHold 11 a1 g0 Post) : JI (wr_d Y X cs ad) D vwCl (jt_tys cs) l yX11_doesHold wsX11_doesHold rm_X11_doesHold 0 0 [.ref (ad 0), .int a1, .ref (ad 12)] g0 (fun r g2 => Post r ∧ g2 = g0) := by
  refine jj_metI (cc := cX11_doesHold) (nL := 6) (ret := (some .boolean)) (by decide) rfl (Nat.le_of_ble_eq_true rfl) [(0, .ref (ad 0)), (1, .int a1), (2, .ref (ad 12))] rfl ?_
  intro p e s m args below meth c hC hnm
  rw [vr_doesHold] at hV
  refine jj_lconst (pc2 := 1) hC 0 dX11_doesHold_0 (by decide) rfl ?_
  refine jj_lstore_n (pc2 := 2) hC [(3, .long 0), (0, .ref (ad 0)), (1, .int a1), (2, .ref (ad 12))] dX11_doesHold_1 rfl (by decide) rfl rfl ?_
  refine jj_bipush (pc2 := 4) hC 6 dX11_doesHold_2 (by decide) rfl ?_
  refine jj_iload_n (pc2 := 5) hC dX11_doesHold_4 rfl 2 rfl rfl ?_
  refine jj_imul (pc2 := 6) hC dX11_doesHold_5 rfl ?_
  refine jj_topi (fun y1 ey1 => ?_)
  have hV := hV y1 ey1
  refine jj_istore (pc2 := 8) hC [(5, .int y1), (3, .long 0), (0, .ref (ad 0)), (1, .int a1), (2, .ref (ad 12))] dX11_doesHold_6 (by decide) rfl rfl ?_
  obtain ⟨n6, hV⟩ := hV
  refine jj_sub (lv2 := [(0, .ref (ad 0)), (1, .int a1), (2, .ref (ad 12)), (3, .long 0), (5, .int y1)]) [2, 3, 4, 1, 0] rfl (ar_doesHold_11_8 hC a1 Post _ (fun y4 hV => ?_) n6 0 y1 hV)
  refine jj_lload_n (pc2 := 53) hC dX11_doesHold_52 rfl 2 rfl rfl ?_
  refine jj_aload_n (pc2 := 54) hC dX11_doesHold_53 rfl 0 rfl rfl ?_
  refine rg_47 (pc2 := 57) hC hi_X11_doesHold_X11 lk_X11_doesHold_4 dX11_doesHold_54 rfl ?_
  refine jj_iload_n (pc2 := 58) hC dX11_doesHold_57 rfl 1 rfl rfl ?_
  refine ra_47 (pc2 := 59) hC hV.1 dX11_doesHold_58 rfl ?_
  have hV := hV.2
  refine jj_i2l (pc2 := 60) hC dX11_doesHold_59 rfl ?_
  refine jj_lcmp (pc2 := 61) hC dX11_doesHold_60 rfl ?_
  refine jj_if_lt (pc2 := 64) hC 68 dX11_doesHold_61 (by decide) rfl (fun h5 => ?_) (fun h5 => ?_)
  · have hV := hV.1 h5
    refine jj_iconst (pc2 := 69) hC 0 dX11_doesHold_68 (by decide) rfl ?_
    exact jj_zret hC jj_nb0 dX11_doesHold_69 ⟨hV, rfl⟩
  · have hV := hV.2 h5
    refine jj_iconst (pc2 := 65) hC 1 dX11_doesHold_64 (by decide) rfl ?_
    refine jj_goto hC 69 dX11_doesHold_65 (by decide) ?_
    exact jj_zret hC jj_nb1 dX11_doesHold_69 ⟨hV, rfl⟩
set_option maxHeartbeats 4000000 in
set_option maxRecDepth 100000 in
theorem ar_doesHold_12_8 {p : Program} {l : Launch} {e : Env} {s : State} {m : MethodId} {args : Array Value} {below : List Frame} {meth : Method} {c : Code} {D : va_G} {cs : Nat → ClassId} {Y X : va_W} {ad : Nat → Nat} {g0 : jm_M} (hC : JC p s m args meth c D vwCl (va_A (wr_d Y X cs ad g0) s.heap.size) 6 cX11_doesHold (some .boolean) wsX11_doesHold RX11 (jt_tys cs)) (x1 : Int32) (Post : Int32 → Prop) (K52 : Int64 → Prop) (hK52 : ∀ (z3 : Int64) , K52 z3 → JJ (wr_d Y X cs ad) p l e rm_X11_doesHold s m args below meth c D vwCl (va_A (wr_d Y X cs ad g0) s.heap.size) 6 0 0 (MQ below (jj_QI (wr_d Y X cs ad) D vwCl (jt_tys cs) g0 s.heap.size (fun r g2 => Post r ∧ g2 = g0)) args s 0 0 (va_A (wr_d Y X cs ad g0) s.heap.size)) 52 [(0, .ref (ad 0)), (1, .int x1), (3, .long z3)] [] g0) : ∀ (f : Nat) (x3 : Int64) (x5 : Int32), vr_doesHold_8 12 x1 g0 K52 Post f x3 x5 → JJ (wr_d Y X cs ad) p l e rm_X11_doesHold s m args below meth c D vwCl (va_A (wr_d Y X cs ad g0) s.heap.size) 6 0 0 (MQ below (jj_QI (wr_d Y X cs ad) D vwCl (jt_tys cs) g0 s.heap.size (fun r g2 => Post r ∧ g2 = g0)) args s 0 0 (va_A (wr_d Y X cs ad g0) s.heap.size)) 8 [(0, .ref (ad 0)), (1, .int x1), (2, .ref (ad 13)), (3, .long x3), (5, .int x5)] [] g0 := by
  intro f
  induction f with
  | zero => intro x3 x5 hV; exact hV.elim
  | succ f ih =>
    intro x3 x5 hV
    rw [vr_doesHold_8] at hV
    refine jj_iload (pc2 := 10) hC dX11_doesHold_8 4 rfl rfl ?_
    refine jj_bipush (pc2 := 12) hC 6 dX11_doesHold_10 (by decide) rfl ?_
    refine jj_iload_n (pc2 := 13) hC dX11_doesHold_12 rfl 1 rfl rfl ?_
    refine jj_imul (pc2 := 14) hC dX11_doesHold_13 rfl ?_
    refine jj_aload_n (pc2 := 15) hC dX11_doesHold_14 rfl 0 rfl rfl ?_
    refine rg_48 (pc2 := 18) hC hi_X11_doesHold_X11 lk_X11_doesHold_1 dX11_doesHold_15 rfl ?_
    refine jj_iload_n (pc2 := 19) hC dX11_doesHold_18 rfl 1 rfl rfl ?_
    refine ra_48 (pc2 := 20) hC hV.1 dX11_doesHold_19 rfl ?_
    have hV := hV.2
    refine jj_iadd (pc2 := 21) hC dX11_doesHold_20 rfl ?_
    refine jj_icmp_ge (pc2 := 24) hC 52 dX11_doesHold_21 (by decide) rfl (fun h2 => ?_) (fun h2 => ?_)
    · have hV := hV.1 h2
      exact jj_sub (lv2 := [(0, .ref (ad 0)), (1, .int x1), (3, .long x3)]) [0, 1, 3] rfl (hK52 x3 hV)
    · have hV := hV.2 h2
      refine jj_lload_n (pc2 := 25) hC dX11_doesHold_24 rfl 3 rfl rfl ?_
      refine jj_aload_n (pc2 := 26) hC dX11_doesHold_25 rfl 0 rfl rfl ?_
      refine rg_50 (pc2 := 29) hC hi_X11_doesHold_X11 lk_X11_doesHold_2 dX11_doesHold_26 rfl ?_
      refine jj_iload (pc2 := 31) hC dX11_doesHold_29 4 rfl rfl ?_
      refine ra_50 (pc2 := 32) hC hV.1 dX11_doesHold_31 rfl ?_
      have hV := hV.2
      refine jj_i2l (pc2 := 33) hC dX11_doesHold_32 rfl ?_
      refine jj_aload_n (pc2 := 34) hC dX11_doesHold_33 rfl 2 rfl rfl ?_
      refine jj_aload_n (pc2 := 35) hC dX11_doesHold_34 rfl 0 rfl rfl ?_
      refine rg_49 (pc2 := 38) hC hi_X11_doesHold_X11 lk_X11_doesHold_3 dX11_doesHold_35 rfl ?_
      refine jj_iload (pc2 := 40) hC dX11_doesHold_38 4 rfl rfl ?_
      refine ra_49 (pc2 := 41) hC hV.1 dX11_doesHold_40 rfl ?_
      have hV := hV.2
      refine ra_12 (pc2 := 42) hC hV.1 dX11_doesHold_41 rfl ?_
      have hV := hV.2
      refine jj_i2l (pc2 := 43) hC dX11_doesHold_42 rfl ?_
      refine jj_lmul (pc2 := 44) hC dX11_doesHold_43 rfl ?_
      refine jj_ladd (pc2 := 45) hC dX11_doesHold_44 rfl ?_
      refine jj_topl (fun y3 ey3 => ?_)
      have hV := hV y3 ey3
      refine jj_lstore_n (pc2 := 46) hC [(3, .long y3), (0, .ref (ad 0)), (1, .int x1), (2, .ref (ad 13)), (5, .int x5)] dX11_doesHold_45 rfl (by decide) rfl rfl ?_
      refine jj_iinc (pc2 := 49) hC (x5 + 1) [(5, .int (x5 + 1)), (3, .long y3), (0, .ref (ad 0)), (1, .int x1), (2, .ref (ad 13))] dX11_doesHold_46 4 rfl rfl (by decide) rfl rfl ?_
      refine jj_goto hC 8 dX11_doesHold_49 (by decide) ?_
      exact jj_sub (lv2 := [(0, .ref (ad 0)), (1, .int x1), (2, .ref (ad 13)), (3, .long y3), (5, .int (x5 + 1))]) [2, 3, 4, 1, 0] rfl (ih y3 (x5 + 1) hV)
set_option maxHeartbeats 4000000 in
set_option maxRecDepth 100000 in
theorem cr_doesHold_12 (l : Launch) (D : va_G) (cs : Nat → ClassId) (Y X : va_W) (ad : Nat → Nat) (a1 : Int32) (g0 : jm_M) (Post : Int32 → Prop) (hV : vr_doesHold 12 a1 g0 Post) : JI (wr_d Y X cs ad) D vwCl (jt_tys cs) l yX11_doesHold wsX11_doesHold rm_X11_doesHold 0 0 [.ref (ad 0), .int a1, .ref (ad 13)] g0 (fun r g2 => Post r ∧ g2 = g0) := by
  refine jj_metI (cc := cX11_doesHold) (nL := 6) (ret := (some .boolean)) (by decide) rfl (Nat.le_of_ble_eq_true rfl) [(0, .ref (ad 0)), (1, .int a1), (2, .ref (ad 13))] rfl ?_
  intro p e s m args below meth c hC hnm
  rw [vr_doesHold] at hV
  refine jj_lconst (pc2 := 1) hC 0 dX11_doesHold_0 (by decide) rfl ?_
  refine jj_lstore_n (pc2 := 2) hC [(3, .long 0), (0, .ref (ad 0)), (1, .int a1), (2, .ref (ad 13))] dX11_doesHold_1 rfl (by decide) rfl rfl ?_
  refine jj_bipush (pc2 := 4) hC 6 dX11_doesHold_2 (by decide) rfl ?_
  refine jj_iload_n (pc2 := 5) hC dX11_doesHold_4 rfl 2 rfl rfl ?_
  refine jj_imul (pc2 := 6) hC dX11_doesHold_5 rfl ?_
  refine jj_topi (fun y1 ey1 => ?_)
  have hV := hV y1 ey1
  refine jj_istore (pc2 := 8) hC [(5, .int y1), (3, .long 0), (0, .ref (ad 0)), (1, .int a1), (2, .ref (ad 13))] dX11_doesHold_6 (by decide) rfl rfl ?_
  obtain ⟨n6, hV⟩ := hV
  refine jj_sub (lv2 := [(0, .ref (ad 0)), (1, .int a1), (2, .ref (ad 13)), (3, .long 0), (5, .int y1)]) [2, 3, 4, 1, 0] rfl (ar_doesHold_12_8 hC a1 Post _ (fun y4 hV => ?_) n6 0 y1 hV)
  refine jj_lload_n (pc2 := 53) hC dX11_doesHold_52 rfl 2 rfl rfl ?_
  refine jj_aload_n (pc2 := 54) hC dX11_doesHold_53 rfl 0 rfl rfl ?_
  refine rg_47 (pc2 := 57) hC hi_X11_doesHold_X11 lk_X11_doesHold_4 dX11_doesHold_54 rfl ?_
  refine jj_iload_n (pc2 := 58) hC dX11_doesHold_57 rfl 1 rfl rfl ?_
  refine ra_47 (pc2 := 59) hC hV.1 dX11_doesHold_58 rfl ?_
  have hV := hV.2
  refine jj_i2l (pc2 := 60) hC dX11_doesHold_59 rfl ?_
  refine jj_lcmp (pc2 := 61) hC dX11_doesHold_60 rfl ?_
  refine jj_if_lt (pc2 := 64) hC 68 dX11_doesHold_61 (by decide) rfl (fun h5 => ?_) (fun h5 => ?_)
  · have hV := hV.1 h5
    refine jj_iconst (pc2 := 69) hC 0 dX11_doesHold_68 (by decide) rfl ?_
    exact jj_zret hC jj_nb0 dX11_doesHold_69 ⟨hV, rfl⟩
  · have hV := hV.2 h5
    refine jj_iconst (pc2 := 65) hC 1 dX11_doesHold_64 (by decide) rfl ?_
    refine jj_goto hC 69 dX11_doesHold_65 (by decide) ?_
    exact jj_zret hC jj_nb1 dX11_doesHold_69 ⟨hV, rfl⟩
set_option maxHeartbeats 4000000 in
set_option maxRecDepth 100000 in
theorem ar_doesHold_13_8 {p : Program} {l : Launch} {e : Env} {s : State} {m : MethodId} {args : Array Value} {below : List Frame} {meth : Method} {c : Code} {D : va_G} {cs : Nat → ClassId} {Y X : va_W} {ad : Nat → Nat} {g0 : jm_M} (hC : JC p s m args meth c D vwCl (va_A (wr_d Y X cs ad g0) s.heap.size) 6 cX11_doesHold (some .boolean) wsX11_doesHold RX11 (jt_tys cs)) (x1 : Int32) (Post : Int32 → Prop) (K52 : Int64 → Prop) (hK52 : ∀ (z3 : Int64) , K52 z3 → JJ (wr_d Y X cs ad) p l e rm_X11_doesHold s m args below meth c D vwCl (va_A (wr_d Y X cs ad g0) s.heap.size) 6 0 0 (MQ below (jj_QI (wr_d Y X cs ad) D vwCl (jt_tys cs) g0 s.heap.size (fun r g2 => Post r ∧ g2 = g0)) args s 0 0 (va_A (wr_d Y X cs ad g0) s.heap.size)) 52 [(0, .ref (ad 0)), (1, .int x1), (3, .long z3)] [] g0) : ∀ (f : Nat) (x3 : Int64) (x5 : Int32), vr_doesHold_8 13 x1 g0 K52 Post f x3 x5 → JJ (wr_d Y X cs ad) p l e rm_X11_doesHold s m args below meth c D vwCl (va_A (wr_d Y X cs ad g0) s.heap.size) 6 0 0 (MQ below (jj_QI (wr_d Y X cs ad) D vwCl (jt_tys cs) g0 s.heap.size (fun r g2 => Post r ∧ g2 = g0)) args s 0 0 (va_A (wr_d Y X cs ad g0) s.heap.size)) 8 [(0, .ref (ad 0)), (1, .int x1), (2, .ref (ad 14)), (3, .long x3), (5, .int x5)] [] g0 := by
  intro f
  induction f with
  | zero => intro x3 x5 hV; exact hV.elim
  | succ f ih =>
    intro x3 x5 hV
    rw [vr_doesHold_8] at hV
    refine jj_iload (pc2 := 10) hC dX11_doesHold_8 4 rfl rfl ?_
    refine jj_bipush (pc2 := 12) hC 6 dX11_doesHold_10 (by decide) rfl ?_
    refine jj_iload_n (pc2 := 13) hC dX11_doesHold_12 rfl 1 rfl rfl ?_
    refine jj_imul (pc2 := 14) hC dX11_doesHold_13 rfl ?_
    refine jj_aload_n (pc2 := 15) hC dX11_doesHold_14 rfl 0 rfl rfl ?_
    refine rg_48 (pc2 := 18) hC hi_X11_doesHold_X11 lk_X11_doesHold_1 dX11_doesHold_15 rfl ?_
    refine jj_iload_n (pc2 := 19) hC dX11_doesHold_18 rfl 1 rfl rfl ?_
    refine ra_48 (pc2 := 20) hC hV.1 dX11_doesHold_19 rfl ?_
    have hV := hV.2
    refine jj_iadd (pc2 := 21) hC dX11_doesHold_20 rfl ?_
    refine jj_icmp_ge (pc2 := 24) hC 52 dX11_doesHold_21 (by decide) rfl (fun h2 => ?_) (fun h2 => ?_)
    · have hV := hV.1 h2
      exact jj_sub (lv2 := [(0, .ref (ad 0)), (1, .int x1), (3, .long x3)]) [0, 1, 3] rfl (hK52 x3 hV)
    · have hV := hV.2 h2
      refine jj_lload_n (pc2 := 25) hC dX11_doesHold_24 rfl 3 rfl rfl ?_
      refine jj_aload_n (pc2 := 26) hC dX11_doesHold_25 rfl 0 rfl rfl ?_
      refine rg_50 (pc2 := 29) hC hi_X11_doesHold_X11 lk_X11_doesHold_2 dX11_doesHold_26 rfl ?_
      refine jj_iload (pc2 := 31) hC dX11_doesHold_29 4 rfl rfl ?_
      refine ra_50 (pc2 := 32) hC hV.1 dX11_doesHold_31 rfl ?_
      have hV := hV.2
      refine jj_i2l (pc2 := 33) hC dX11_doesHold_32 rfl ?_
      refine jj_aload_n (pc2 := 34) hC dX11_doesHold_33 rfl 2 rfl rfl ?_
      refine jj_aload_n (pc2 := 35) hC dX11_doesHold_34 rfl 0 rfl rfl ?_
      refine rg_49 (pc2 := 38) hC hi_X11_doesHold_X11 lk_X11_doesHold_3 dX11_doesHold_35 rfl ?_
      refine jj_iload (pc2 := 40) hC dX11_doesHold_38 4 rfl rfl ?_
      refine ra_49 (pc2 := 41) hC hV.1 dX11_doesHold_40 rfl ?_
      have hV := hV.2
      refine ra_13 (pc2 := 42) hC hV.1 dX11_doesHold_41 rfl ?_
      have hV := hV.2
      refine jj_i2l (pc2 := 43) hC dX11_doesHold_42 rfl ?_
      refine jj_lmul (pc2 := 44) hC dX11_doesHold_43 rfl ?_
      refine jj_ladd (pc2 := 45) hC dX11_doesHold_44 rfl ?_
      refine jj_topl (fun y3 ey3 => ?_)
      have hV := hV y3 ey3
      refine jj_lstore_n (pc2 := 46) hC [(3, .long y3), (0, .ref (ad 0)), (1, .int x1), (2, .ref (ad 14)), (5, .int x5)] dX11_doesHold_45 rfl (by decide) rfl rfl ?_
      refine jj_iinc (pc2 := 49) hC (x5 + 1) [(5, .int (x5 + 1)), (3, .long y3), (0, .ref (ad 0)), (1, .int x1), (2, .ref (ad 14))] dX11_doesHold_46 4 rfl rfl (by decide) rfl rfl ?_
      refine jj_goto hC 8 dX11_doesHold_49 (by decide) ?_
      exact jj_sub (lv2 := [(0, .ref (ad 0)), (1, .int x1), (2, .ref (ad 14)), (3, .long y3), (5, .int (x5 + 1))]) [2, 3, 4, 1, 0] rfl (ih y3 (x5 + 1) hV)
set_option maxHeartbeats 4000000 in
set_option maxRecDepth 100000 in
theorem cr_doesHold_13 (l : Launch) (D : va_G) (cs : Nat → ClassId) (Y X : va_W) (ad : Nat → Nat) (a1 : Int32) (g0 : jm_M) (Post : Int32 → Prop) (hV : vr_doesHold 13 a1 g0 Post) : JI (wr_d Y X cs ad) D vwCl (jt_tys cs) l yX11_doesHold wsX11_doesHold rm_X11_doesHold 0 0 [.ref (ad 0), .int a1, .ref (ad 14)] g0 (fun r g2 => Post r ∧ g2 = g0) := by
  refine jj_metI (cc := cX11_doesHold) (nL := 6) (ret := (some .boolean)) (by decide) rfl (Nat.le_of_ble_eq_true rfl) [(0, .ref (ad 0)), (1, .int a1), (2, .ref (ad 14))] rfl ?_
  intro p e s m args below meth c hC hnm
  rw [vr_doesHold] at hV
  refine jj_lconst (pc2 := 1) hC 0 dX11_doesHold_0 (by decide) rfl ?_
  refine jj_lstore_n (pc2 := 2) hC [(3, .long 0), (0, .ref (ad 0)), (1, .int a1), (2, .ref (ad 14))] dX11_doesHold_1 rfl (by decide) rfl rfl ?_
  refine jj_bipush (pc2 := 4) hC 6 dX11_doesHold_2 (by decide) rfl ?_
  refine jj_iload_n (pc2 := 5) hC dX11_doesHold_4 rfl 2 rfl rfl ?_
  refine jj_imul (pc2 := 6) hC dX11_doesHold_5 rfl ?_
  refine jj_topi (fun y1 ey1 => ?_)
  have hV := hV y1 ey1
  refine jj_istore (pc2 := 8) hC [(5, .int y1), (3, .long 0), (0, .ref (ad 0)), (1, .int a1), (2, .ref (ad 14))] dX11_doesHold_6 (by decide) rfl rfl ?_
  obtain ⟨n6, hV⟩ := hV
  refine jj_sub (lv2 := [(0, .ref (ad 0)), (1, .int a1), (2, .ref (ad 14)), (3, .long 0), (5, .int y1)]) [2, 3, 4, 1, 0] rfl (ar_doesHold_13_8 hC a1 Post _ (fun y4 hV => ?_) n6 0 y1 hV)
  refine jj_lload_n (pc2 := 53) hC dX11_doesHold_52 rfl 2 rfl rfl ?_
  refine jj_aload_n (pc2 := 54) hC dX11_doesHold_53 rfl 0 rfl rfl ?_
  refine rg_47 (pc2 := 57) hC hi_X11_doesHold_X11 lk_X11_doesHold_4 dX11_doesHold_54 rfl ?_
  refine jj_iload_n (pc2 := 58) hC dX11_doesHold_57 rfl 1 rfl rfl ?_
  refine ra_47 (pc2 := 59) hC hV.1 dX11_doesHold_58 rfl ?_
  have hV := hV.2
  refine jj_i2l (pc2 := 60) hC dX11_doesHold_59 rfl ?_
  refine jj_lcmp (pc2 := 61) hC dX11_doesHold_60 rfl ?_
  refine jj_if_lt (pc2 := 64) hC 68 dX11_doesHold_61 (by decide) rfl (fun h5 => ?_) (fun h5 => ?_)
  · have hV := hV.1 h5
    refine jj_iconst (pc2 := 69) hC 0 dX11_doesHold_68 (by decide) rfl ?_
    exact jj_zret hC jj_nb0 dX11_doesHold_69 ⟨hV, rfl⟩
  · have hV := hV.2 h5
    refine jj_iconst (pc2 := 65) hC 1 dX11_doesHold_64 (by decide) rfl ?_
    refine jj_goto hC 69 dX11_doesHold_65 (by decide) ?_
    exact jj_zret hC jj_nb1 dX11_doesHold_69 ⟨hV, rfl⟩
theorem hi_X11_holds_X11 : ∀ w ∈ u_ws RX11 TX11 63, w ∈ wsX11_holds := fun _ h => List.mem_cons_of_mem _ (List.mem_append_right _ h)
theorem lk_X11_holds_2 : Cond.fieldLink RX11 34 "PartedHouseModel" "fresh" "[I" ∈ wsX11_holds := List.mem_of_getElem? (i := 2) rfl
theorem lk_X11_holds_1 : Cond.fieldLink RX11 31 "PartedHouseModel" "old" "[I" ∈ wsX11_holds := List.mem_of_getElem? (i := 1) rfl
abbrev rm_X11_holds : Room := { frames := 2, cells := 0, slots := 0, locals := 43 }
def vr_holds (a1 : Int32) (a2 : Int32) (g0 : jm_M) (Post : Int32 → Prop) : Prop := vr_isLaw a1 g0 (fun (r1 : Int32) => ((r1 = 0) → (Post (-1))) ∧ ((¬ r1 = 0) → (vr_in a2 0 1 g0 (fun (r3 : Int32) => ((¬ r3 = 0) → (((¬ a2 = 0) → (vr_doesHold 12 a1 g0 (fun (r6 : Int32) => ((r6 = 0) → (Post 0)) ∧ ((¬ r6 = 0) → (Post 1))))) ∧ ((a2 = 0) → (vr_doesHold 11 a1 g0 (fun (r8 : Int32) => ((r8 = 0) → (Post 0)) ∧ ((¬ r8 = 0) → (Post 1))))))) ∧ ((r3 = 0) → (Post (-1)))))))
set_option maxHeartbeats 4000000 in
set_option maxRecDepth 100000 in
theorem cr_holds (l : Launch) (D : va_G) (cs : Nat → ClassId) (Y X : va_W) (ad : Nat → Nat) (a1 : Int32) (a2 : Int32) (g0 : jm_M) (Post : Int32 → Prop) (hV : vr_holds a1 a2 g0 Post) : JI (wr_d Y X cs ad) D vwCl (jt_tys cs) l yX11_holds wsX11_holds rm_X11_holds 0 0 [.ref (ad 0), .int a1, .int a2] g0 (fun r g2 => Post r ∧ g2 = g0) := by
  refine jj_metI (cc := cX11_holds) (nL := 3) (ret := (some .int)) (by decide) rfl (Nat.le_of_ble_eq_true rfl) [(0, .ref (ad 0)), (1, .int a1), (2, .int a2)] rfl ?_
  intro p e s m args below meth c hC hnm
  rw [vr_holds] at hV
  refine jj_aload_n (pc2 := 1) hC dX11_holds_0 rfl 0 rfl rfl ?_
  refine jj_iload_n (pc2 := 2) hC dX11_holds_1 rfl 1 rfl rfl ?_
  refine jj_cVIp (pc2 := 5) (wd := wr_d Y X cs ad) (g := g0) (rest := []) hC (Y.length + 0) (jx_at (V := wr_W cs ad g0) rfl) rfl rfl (cr_isLaw l D cs Y X ad a1 g0 _ hV) (cwV 1 hC.1.2.2.2.2 gX11_holds_X11_isLaw rfl rfl rfl (by decide +kernel) ⟨by decide, by decide⟩) rfl (Nat.le_of_ble_eq_true rfl) _ rfl dX11_holds_2 ⟨Nat.zero_le _, Nat.zero_le _⟩ rfl (fun r1 hV => ?_)
  refine jj_if_eq (pc2 := 8) hC 17 dX11_holds_5 (by decide) rfl (fun h2 => ?_) (fun h2 => ?_)
  · have hV := hV.1 h2
    refine jj_iconst (pc2 := 18) hC (-1) dX11_holds_17 (by decide) rfl ?_
    refine jj_goto hC 49 dX11_holds_18 (by decide) ?_
    exact jj_iret hC dX11_holds_49 ⟨hV, rfl⟩
  · have hV := hV.2 h2
    refine jj_iload_n (pc2 := 9) hC dX11_holds_8 rfl 2 rfl rfl ?_
    refine jj_iconst (pc2 := 10) hC 0 dX11_holds_9 (by decide) rfl ?_
    refine jj_iconst (pc2 := 11) hC 1 dX11_holds_10 (by decide) rfl ?_
    refine jj_cSIp (pc2 := 14) (wd := wr_d Y X cs ad) (g := g0) (rest := []) hC (cr_in l D cs Y X ad a2 0 1 g0 _ hV) (va_cwS 3 hC.1.2.2.2.2 gX11_holds_X11_in rfl rfl rfl (by decide +kernel) ⟨by decide, by decide⟩) rfl (Nat.le_of_ble_eq_true rfl) _ rfl dX11_holds_11 ⟨Nat.zero_le _, Nat.zero_le _⟩ rfl (fun r3 hV => ?_)
    refine jj_if_ne (pc2 := 17) hC 21 dX11_holds_14 (by decide) rfl (fun h4 => ?_) (fun h4 => ?_)
    · have hV := hV.1 h4
      refine jj_aload_n (pc2 := 22) hC dX11_holds_21 rfl 0 rfl rfl ?_
      refine jj_iload_n (pc2 := 23) hC dX11_holds_22 rfl 1 rfl rfl ?_
      refine jj_iload_n (pc2 := 24) hC dX11_holds_23 rfl 2 rfl rfl ?_
      refine jj_if_ne (pc2 := 27) hC 34 dX11_holds_24 (by decide) rfl (fun h5 => ?_) (fun h5 => ?_)
      · have hV := hV.1 h5
        refine jj_aload_n (pc2 := 35) hC dX11_holds_34 rfl 0 rfl rfl ?_
        refine rg_12 (pc2 := 38) hC hi_X11_holds_X11 lk_X11_holds_2 dX11_holds_35 rfl ?_
        refine jj_cVIp (pc2 := 41) (wd := wr_d Y X cs ad) (g := g0) (rest := []) hC (Y.length + 0) (jx_at (V := wr_W cs ad g0) rfl) rfl rfl (cr_doesHold_12 l D cs Y X ad a1 g0 _ hV) (cwV 2 hC.1.2.2.2.2 gX11_holds_X11_doesHold rfl rfl rfl (by decide +kernel) ⟨by decide, by decide⟩) rfl (Nat.le_of_ble_eq_true rfl) _ rfl dX11_holds_38 ⟨Nat.zero_le _, Nat.zero_le _⟩ rfl (fun r6 hV => ?_)
        refine jj_if_eq (pc2 := 44) hC 48 dX11_holds_41 (by decide) rfl (fun h7 => ?_) (fun h7 => ?_)
        · have hV := hV.1 h7
          refine jj_iconst (pc2 := 49) hC 0 dX11_holds_48 (by decide) rfl ?_
          exact jj_iret hC dX11_holds_49 ⟨hV, rfl⟩
        · have hV := hV.2 h7
          refine jj_iconst (pc2 := 45) hC 1 dX11_holds_44 (by decide) rfl ?_
          refine jj_goto hC 49 dX11_holds_45 (by decide) ?_
          exact jj_iret hC dX11_holds_49 ⟨hV, rfl⟩
      · have hV := hV.2 h5
        refine jj_aload_n (pc2 := 28) hC dX11_holds_27 rfl 0 rfl rfl ?_
        refine rg_11 (pc2 := 31) hC hi_X11_holds_X11 lk_X11_holds_1 dX11_holds_28 rfl ?_
        refine jj_goto hC 38 dX11_holds_31 (by decide) ?_
        refine jj_cVIp (pc2 := 41) (wd := wr_d Y X cs ad) (g := g0) (rest := []) hC (Y.length + 0) (jx_at (V := wr_W cs ad g0) rfl) rfl rfl (cr_doesHold_11 l D cs Y X ad a1 g0 _ hV) (cwV 2 hC.1.2.2.2.2 gX11_holds_X11_doesHold rfl rfl rfl (by decide +kernel) ⟨by decide, by decide⟩) rfl (Nat.le_of_ble_eq_true rfl) _ rfl dX11_holds_38 ⟨Nat.zero_le _, Nat.zero_le _⟩ rfl (fun r8 hV => ?_)
        refine jj_if_eq (pc2 := 44) hC 48 dX11_holds_41 (by decide) rfl (fun h9 => ?_) (fun h9 => ?_)
        · have hV := hV.1 h9
          refine jj_iconst (pc2 := 49) hC 0 dX11_holds_48 (by decide) rfl ?_
          exact jj_iret hC dX11_holds_49 ⟨hV, rfl⟩
        · have hV := hV.2 h9
          refine jj_iconst (pc2 := 45) hC 1 dX11_holds_44 (by decide) rfl ?_
          refine jj_goto hC 49 dX11_holds_45 (by decide) ?_
          exact jj_iret hC dX11_holds_49 ⟨hV, rfl⟩
    · have hV := hV.2 h4
      refine jj_iconst (pc2 := 18) hC (-1) dX11_holds_17 (by decide) rfl ?_
      refine jj_goto hC 49 dX11_holds_18 (by decide) ?_
      exact jj_iret hC dX11_holds_49 ⟨hV, rfl⟩
theorem hi_X11_findWaiting_X11 : ∀ w ∈ u_ws RX11 TX11 63, w ∈ wsX11_findWaiting := fun _ h => List.mem_cons_of_mem _ (List.mem_append_right _ h)
theorem lk_X11_findWaiting_1 : Cond.fieldLink RX11 265 "PartedHouseModel" "many" "I" ∈ wsX11_findWaiting := List.mem_of_getElem? (i := 1) rfl
theorem lk_X11_findWaiting_4 : Cond.fieldLink RX11 125 "PartedHouseModel" "waiting" "[I" ∈ wsX11_findWaiting := List.mem_of_getElem? (i := 4) rfl
theorem lk_X11_findWaiting_3 : Cond.fieldLink RX11 110 "PartedHouseModel" "waits" "[Z" ∈ wsX11_findWaiting := List.mem_of_getElem? (i := 3) rfl
theorem lk_X11_findWaiting_2 : Cond.fieldLink RX11 242 "PartedHouseModel" "sent" "I" ∈ wsX11_findWaiting := List.mem_of_getElem? (i := 2) rfl
abbrev rm_X11_findWaiting : Room := { frames := 0, cells := 0, slots := 0, locals := 0 }
def vr_findWaiting_7 (Post : jm_M → Prop) : Nat → Int32 → jm_M → Prop
  | 0, _, _ => False
  | f + 1, x1, g => (((g 40 0) ≤ x1) → (Post g)) ∧ ((¬ (g 40 0) ≤ x1) → (((6 ≤ (g 51 0)) → (Post g)) ∧ ((¬ 6 ≤ (g 51 0)) → ((vp_in x1 2000) ∧ (((¬ (g 45 x1.toNatClampNeg) = 0) → ((vp_in (g 51 0) 6) ∧ (∀ g5 : jm_M, g5 = jm_a g 52 (g 51 0) x1 → (∀ g6 : jm_M, g6 = jm_s g5 51 ((g5 51 0) + 1) → (vr_findWaiting_7 Post f (x1 + 1) g6))))) ∧ (((g 45 x1.toNatClampNeg) = 0) → (vr_findWaiting_7 Post f (x1 + 1) g)))))))
def vr_findWaiting (g0 : jm_M) (Post : jm_M → Prop) : Prop := ∀ g1 : jm_M, g1 = jm_s g0 51 0 → (∃ n7 : Nat, vr_findWaiting_7 Post n7 0 g1)
set_option maxHeartbeats 4000000 in
set_option maxRecDepth 100000 in
theorem ar_findWaiting_7 {p : Program} {l : Launch} {e : Env} {s : State} {m : MethodId} {args : Array Value} {below : List Frame} {meth : Method} {c : Code} {D : va_G} {cs : Nat → ClassId} {Y X : va_W} {ad : Nat → Nat} {g0 : jm_M} (hC : JC p s m args meth c D vwCl (va_A (wr_d Y X cs ad g0) s.heap.size) 2 cX11_findWaiting none wsX11_findWaiting RX11 (jt_tys cs)) (Post : jm_M → Prop) : ∀ (f : Nat) (x1 : Int32) (g : jm_M), vr_findWaiting_7 Post f x1 g → JJ (wr_d Y X cs ad) p l e rm_X11_findWaiting s m args below meth c D vwCl (va_A (wr_d Y X cs ad g0) s.heap.size) 2 0 0 (MQ below (jj_QV (wr_d Y X cs ad) D vwCl (jt_tys cs) g0 s.heap.size Post) args s 0 0 (va_A (wr_d Y X cs ad g0) s.heap.size)) 7 [(0, .ref (ad 0)), (1, .int x1)] [] g := by
  intro f
  induction f with
  | zero => intro x1 g hV; exact hV.elim
  | succ f ih =>
    intro x1 g hV
    rw [vr_findWaiting_7] at hV
    refine jj_iload_n (pc2 := 8) hC dX11_findWaiting_7 rfl 1 rfl rfl ?_
    refine jj_aload_n (pc2 := 9) hC dX11_findWaiting_8 rfl 0 rfl rfl ?_
    refine rg_40 (pc2 := 12) hC hi_X11_findWaiting_X11 lk_X11_findWaiting_2 dX11_findWaiting_9 rfl ?_
    refine jj_icmp_ge (pc2 := 15) hC 62 dX11_findWaiting_12 (by decide) rfl (fun h2 => ?_) (fun h2 => ?_)
    · have hV := hV.1 h2
      exact jj_vret hC dX11_findWaiting_62 hV
    · have hV := hV.2 h2
      refine jj_aload_n (pc2 := 16) hC dX11_findWaiting_15 rfl 0 rfl rfl ?_
      refine rg_51 (pc2 := 19) hC hi_X11_findWaiting_X11 lk_X11_findWaiting_1 dX11_findWaiting_16 rfl ?_
      refine jj_bipush (pc2 := 21) hC 6 dX11_findWaiting_19 (by decide) rfl ?_
      refine jj_icmp_ge (pc2 := 24) hC 62 dX11_findWaiting_21 (by decide) rfl (fun h3 => ?_) (fun h3 => ?_)
      · have hV := hV.1 h3
        exact jj_vret hC dX11_findWaiting_62 hV
      · have hV := hV.2 h3
        refine jj_aload_n (pc2 := 25) hC dX11_findWaiting_24 rfl 0 rfl rfl ?_
        refine rg_45 (pc2 := 28) hC hi_X11_findWaiting_X11 lk_X11_findWaiting_3 dX11_findWaiting_25 rfl ?_
        refine jj_iload_n (pc2 := 29) hC dX11_findWaiting_28 rfl 1 rfl rfl ?_
        refine ra_45 (pc2 := 30) hC hV.1 dX11_findWaiting_29 rfl ?_
        have hV := hV.2
        refine jj_if_ne (pc2 := 33) hC 36 dX11_findWaiting_30 (by decide) rfl (fun h4 => ?_) (fun h4 => ?_)
        · have hV := hV.1 h4
          refine jj_aload_n (pc2 := 37) hC dX11_findWaiting_36 rfl 0 rfl rfl ?_
          refine rg_52 (pc2 := 40) hC hi_X11_findWaiting_X11 lk_X11_findWaiting_4 dX11_findWaiting_37 rfl ?_
          refine jj_aload_n (pc2 := 41) hC dX11_findWaiting_40 rfl 0 rfl rfl ?_
          refine rg_51 (pc2 := 44) hC hi_X11_findWaiting_X11 lk_X11_findWaiting_1 dX11_findWaiting_41 rfl ?_
          refine jj_iload_n (pc2 := 45) hC dX11_findWaiting_44 rfl 1 rfl rfl ?_
          refine rs_52 (pc2 := 46) hC hV.1 dX11_findWaiting_45 rfl (fun g5 eg5 => ?_)
          have hV := hV.2 g5 eg5
          refine jj_aload_n (pc2 := 47) hC dX11_findWaiting_46 rfl 0 rfl rfl ?_
          refine jj_dup (pc2 := 48) hC dX11_findWaiting_47 rfl rfl ?_
          refine rg_51 (pc2 := 51) hC hi_X11_findWaiting_X11 lk_X11_findWaiting_1 dX11_findWaiting_48 rfl ?_
          refine jj_iconst (pc2 := 52) hC 1 dX11_findWaiting_51 (by decide) rfl ?_
          refine jj_iadd (pc2 := 53) hC dX11_findWaiting_52 rfl ?_
          refine rp_51 (pc2 := 56) hC hi_X11_findWaiting_X11 lk_X11_findWaiting_1 dX11_findWaiting_53 rfl (fun g6 eg6 => ?_)
          have hV := hV g6 eg6
          refine jj_iinc (pc2 := 59) hC (x1 + 1) [(1, .int (x1 + 1)), (0, .ref (ad 0))] dX11_findWaiting_56 1 rfl rfl (by decide) rfl rfl ?_
          refine jj_goto hC 7 dX11_findWaiting_59 (by decide) ?_
          exact jj_sub (lv2 := [(0, .ref (ad 0)), (1, .int (x1 + 1))]) [1, 0] rfl (ih (x1 + 1) g6 hV)
        · have hV := hV.2 h4
          refine jj_goto hC 56 dX11_findWaiting_33 (by decide) ?_
          refine jj_iinc (pc2 := 59) hC (x1 + 1) [(1, .int (x1 + 1)), (0, .ref (ad 0))] dX11_findWaiting_56 1 rfl rfl (by decide) rfl rfl ?_
          refine jj_goto hC 7 dX11_findWaiting_59 (by decide) ?_
          exact jj_sub (lv2 := [(0, .ref (ad 0)), (1, .int (x1 + 1))]) [1, 0] rfl (ih (x1 + 1) g hV)
set_option maxHeartbeats 4000000 in
set_option maxRecDepth 100000 in
theorem cr_findWaiting (l : Launch) (D : va_G) (cs : Nat → ClassId) (Y X : va_W) (ad : Nat → Nat) (g0 : jm_M) (Post : jm_M → Prop) (hV : vr_findWaiting g0 Post) : JV (wr_d Y X cs ad) D vwCl (jt_tys cs) l yX11_findWaiting wsX11_findWaiting rm_X11_findWaiting 0 0 [.ref (ad 0)] g0 Post := by
  refine jj_metV (cc := cX11_findWaiting) (nL := 2) (ret := none) (by decide) rfl (Nat.le_of_ble_eq_true rfl) [(0, .ref (ad 0))] rfl ?_
  intro p e s m args below meth c hC hnm
  rw [vr_findWaiting] at hV
  refine jj_aload_n (pc2 := 1) hC dX11_findWaiting_0 rfl 0 rfl rfl ?_
  refine jj_iconst (pc2 := 2) hC 0 dX11_findWaiting_1 (by decide) rfl ?_
  refine rp_51 (pc2 := 5) hC hi_X11_findWaiting_X11 lk_X11_findWaiting_1 dX11_findWaiting_2 rfl (fun g1 eg1 => ?_)
  have hV := hV g1 eg1
  refine jj_iconst (pc2 := 6) hC 0 dX11_findWaiting_5 (by decide) rfl ?_
  refine jj_istore_n (pc2 := 7) hC [(1, .int 0), (0, .ref (ad 0))] dX11_findWaiting_6 rfl (by decide) rfl rfl ?_
  obtain ⟨n7, hV⟩ := hV
  refine jj_sub (lv2 := [(0, .ref (ad 0)), (1, .int 0)]) [1, 0] rfl (ar_findWaiting_7 hC Post n7 0 g1 hV)
theorem hi_X11_mayCome_X11 : ∀ w ∈ u_ws RX11 TX11 63, w ∈ wsX11_mayCome := fun _ h => List.mem_cons_of_mem _ (List.mem_append_right _ h)
theorem lk_X11_mayCome_1 : Cond.fieldLink RX11 128 "PartedHouseModel" "order" "[I" ∈ wsX11_mayCome := List.mem_of_getElem? (i := 1) rfl
theorem lk_X11_mayCome_3 : Cond.fieldLink RX11 125 "PartedHouseModel" "waiting" "[I" ∈ wsX11_mayCome := List.mem_of_getElem? (i := 3) rfl
theorem lk_X11_mayCome_2 : Cond.fieldLink RX11 98 "PartedHouseModel" "letterCell" "[I" ∈ wsX11_mayCome := List.mem_of_getElem? (i := 2) rfl
abbrev rm_X11_mayCome : Room := { frames := 0, cells := 0, slots := 0, locals := 0 }
def vr_mayCome_9 (x1 : Int32) (x2 : Int32) (g0 : jm_M) (K32 : Prop) (Post : Int32 → Prop) : Nat → Int32 → Prop
  | 0, _ => False
  | f + 1, x3 => ((x1 ≤ x3) → (K32)) ∧ ((¬ x1 ≤ x3) → ((vp_in x3 7) ∧ (((¬ (g0 53 x3.toNatClampNeg) = x2) → (vr_mayCome_9 x1 x2 g0 K32 Post f (x3 + 1))) ∧ (((g0 53 x3.toNatClampNeg) = x2) → (Post 0)))))
def vr_mayCome_73 (x1 : Int32) (x2 : Int32) (x3 : Int32) (g0 : jm_M) (K108 : Int32 → Prop) (Post : Int32 → Prop) : Nat → Int32 → Int32 → Prop
  | 0, _, _ => False
  | f + 1, x4, x5 => ((x1 ≤ x5) → (K108 x4)) ∧ ((¬ x1 ≤ x5) → (((¬ x4 = 0) → (vr_mayCome_73 x1 x2 x3 g0 K108 Post f 1 (x5 + 1))) ∧ ((x4 = 0) → ((vp_in x5 7) ∧ (((¬ (g0 53 x5.toNatClampNeg) = x3) → (vr_mayCome_73 x1 x2 x3 g0 K108 Post f 0 (x5 + 1))) ∧ (((g0 53 x5.toNatClampNeg) = x3) → (vr_mayCome_73 x1 x2 x3 g0 K108 Post f 1 (x5 + 1))))))))
def vr_mayCome_34 (x1 : Int32) (x2 : Int32) (g0 : jm_M) (Post : Int32 → Prop) : Nat → Int32 → Prop
  | 0, _ => False
  | f + 1, x3 => ((x2 ≤ x3) → (Post 1)) ∧ ((¬ x2 ≤ x3) → ((vp_in x3 6) ∧ ((vp_in (g0 52 x3.toNatClampNeg) 2000) ∧ ((vp_in x2 6) ∧ ((vp_in (g0 52 x2.toNatClampNeg) 2000) ∧ ((((g0 41 (g0 52 x3.toNatClampNeg).toNatClampNeg) = (g0 41 (g0 52 x2.toNatClampNeg).toNatClampNeg)) → (∃ n11 : Nat, vr_mayCome_73 x1 x2 x3 g0 (fun (y9 : Int32) => ((¬ y9 = 0) → (vr_mayCome_34 x1 x2 g0 Post f (x3 + 1))) ∧ ((y9 = 0) → (Post 0))) Post n11 0 0)) ∧ ((¬ (g0 41 (g0 52 x3.toNatClampNeg).toNatClampNeg) = (g0 41 (g0 52 x2.toNatClampNeg).toNatClampNeg)) → (vr_mayCome_34 x1 x2 g0 Post f (x3 + 1)))))))))
def vr_mayCome (a1 : Int32) (g0 : jm_M) (Post : Int32 → Prop) : Prop := (vp_in a1 7) ∧ (∀ y1 : Int32, y1 = g0 53 a1.toNatClampNeg → (∃ n13 : Nat, vr_mayCome_9 a1 y1 g0 (∃ n12 : Nat, vr_mayCome_34 a1 y1 g0 Post n12 0) Post n13 0))
set_option maxHeartbeats 4000000 in
set_option maxRecDepth 100000 in
theorem ar_mayCome_9 {p : Program} {l : Launch} {e : Env} {s : State} {m : MethodId} {args : Array Value} {below : List Frame} {meth : Method} {c : Code} {D : va_G} {cs : Nat → ClassId} {Y X : va_W} {ad : Nat → Nat} {g0 : jm_M} (hC : JC p s m args meth c D vwCl (va_A (wr_d Y X cs ad g0) s.heap.size) 6 cX11_mayCome (some .boolean) wsX11_mayCome RX11 (jt_tys cs)) (x1 : Int32) (x2 : Int32) (Post : Int32 → Prop) (K32 : Prop) (hK32 : K32 → JJ (wr_d Y X cs ad) p l e rm_X11_mayCome s m args below meth c D vwCl (va_A (wr_d Y X cs ad g0) s.heap.size) 6 0 0 (MQ below (jj_QI (wr_d Y X cs ad) D vwCl (jt_tys cs) g0 s.heap.size (fun r g2 => Post r ∧ g2 = g0)) args s 0 0 (va_A (wr_d Y X cs ad g0) s.heap.size)) 32 [(0, .ref (ad 0)), (1, .int x1), (2, .int x2)] [] g0) : ∀ (f : Nat) (x3 : Int32), vr_mayCome_9 x1 x2 g0 K32 Post f x3 → JJ (wr_d Y X cs ad) p l e rm_X11_mayCome s m args below meth c D vwCl (va_A (wr_d Y X cs ad g0) s.heap.size) 6 0 0 (MQ below (jj_QI (wr_d Y X cs ad) D vwCl (jt_tys cs) g0 s.heap.size (fun r g2 => Post r ∧ g2 = g0)) args s 0 0 (va_A (wr_d Y X cs ad g0) s.heap.size)) 9 [(0, .ref (ad 0)), (1, .int x1), (2, .int x2), (3, .int x3)] [] g0 := by
  intro f
  induction f with
  | zero => intro x3 hV; exact hV.elim
  | succ f ih =>
    intro x3 hV
    rw [vr_mayCome_9] at hV
    refine jj_iload_n (pc2 := 10) hC dX11_mayCome_9 rfl 3 rfl rfl ?_
    refine jj_iload_n (pc2 := 11) hC dX11_mayCome_10 rfl 1 rfl rfl ?_
    refine jj_icmp_ge (pc2 := 14) hC 32 dX11_mayCome_11 (by decide) rfl (fun h2 => ?_) (fun h2 => ?_)
    · have hV := hV.1 h2
      exact jj_sub (lv2 := [(0, .ref (ad 0)), (1, .int x1), (2, .int x2)]) [0, 1, 2] rfl (hK32  hV)
    · have hV := hV.2 h2
      refine jj_aload_n (pc2 := 15) hC dX11_mayCome_14 rfl 0 rfl rfl ?_
      refine rg_53 (pc2 := 18) hC hi_X11_mayCome_X11 lk_X11_mayCome_1 dX11_mayCome_15 rfl ?_
      refine jj_iload_n (pc2 := 19) hC dX11_mayCome_18 rfl 3 rfl rfl ?_
      refine ra_53 (pc2 := 20) hC hV.1 dX11_mayCome_19 rfl ?_
      have hV := hV.2
      refine jj_iload_n (pc2 := 21) hC dX11_mayCome_20 rfl 2 rfl rfl ?_
      refine jj_icmp_ne (pc2 := 24) hC 26 dX11_mayCome_21 (by decide) rfl (fun h3 => ?_) (fun h3 => ?_)
      · have hV := hV.1 h3
        refine jj_iinc (pc2 := 29) hC (x3 + 1) [(3, .int (x3 + 1)), (0, .ref (ad 0)), (1, .int x1), (2, .int x2)] dX11_mayCome_26 3 rfl rfl (by decide) rfl rfl ?_
        refine jj_goto hC 9 dX11_mayCome_29 (by decide) ?_
        exact jj_sub (lv2 := [(0, .ref (ad 0)), (1, .int x1), (2, .int x2), (3, .int (x3 + 1))]) [1, 2, 3, 0] rfl (ih (x3 + 1) hV)
      · have hV := hV.2 h3
        refine jj_iconst (pc2 := 25) hC 0 dX11_mayCome_24 (by decide) rfl ?_
        exact jj_zret hC jj_nb0 dX11_mayCome_25 ⟨hV, rfl⟩
set_option maxHeartbeats 4000000 in
set_option maxRecDepth 100000 in
theorem ar_mayCome_73 {p : Program} {l : Launch} {e : Env} {s : State} {m : MethodId} {args : Array Value} {below : List Frame} {meth : Method} {c : Code} {D : va_G} {cs : Nat → ClassId} {Y X : va_W} {ad : Nat → Nat} {g0 : jm_M} (hC : JC p s m args meth c D vwCl (va_A (wr_d Y X cs ad g0) s.heap.size) 6 cX11_mayCome (some .boolean) wsX11_mayCome RX11 (jt_tys cs)) (x1 : Int32) (x2 : Int32) (x3 : Int32) (Post : Int32 → Prop) (K108 : Int32 → Prop) (hK108 : ∀ (z4 : Int32) , K108 z4 → JJ (wr_d Y X cs ad) p l e rm_X11_mayCome s m args below meth c D vwCl (va_A (wr_d Y X cs ad g0) s.heap.size) 6 0 0 (MQ below (jj_QI (wr_d Y X cs ad) D vwCl (jt_tys cs) g0 s.heap.size (fun r g2 => Post r ∧ g2 = g0)) args s 0 0 (va_A (wr_d Y X cs ad g0) s.heap.size)) 108 [(0, .ref (ad 0)), (1, .int x1), (2, .int x2), (3, .int x3), (4, .int z4)] [] g0) : ∀ (f : Nat) (x4 : Int32) (x5 : Int32), vr_mayCome_73 x1 x2 x3 g0 K108 Post f x4 x5 → JJ (wr_d Y X cs ad) p l e rm_X11_mayCome s m args below meth c D vwCl (va_A (wr_d Y X cs ad g0) s.heap.size) 6 0 0 (MQ below (jj_QI (wr_d Y X cs ad) D vwCl (jt_tys cs) g0 s.heap.size (fun r g2 => Post r ∧ g2 = g0)) args s 0 0 (va_A (wr_d Y X cs ad g0) s.heap.size)) 73 [(0, .ref (ad 0)), (1, .int x1), (2, .int x2), (3, .int x3), (4, .int x4), (5, .int x5)] [] g0 := by
  intro f
  induction f with
  | zero => intro x4 x5 hV; exact hV.elim
  | succ f ih =>
    intro x4 x5 hV
    rw [vr_mayCome_73] at hV
    refine jj_iload (pc2 := 75) hC dX11_mayCome_73 5 rfl rfl ?_
    refine jj_iload_n (pc2 := 76) hC dX11_mayCome_75 rfl 1 rfl rfl ?_
    refine jj_icmp_ge (pc2 := 79) hC 108 dX11_mayCome_76 (by decide) rfl (fun h6 => ?_) (fun h6 => ?_)
    · have hV := hV.1 h6
      exact jj_sub (lv2 := [(0, .ref (ad 0)), (1, .int x1), (2, .int x2), (3, .int x3), (4, .int x4)]) [0, 1, 2, 3, 4] rfl (hK108 x4 hV)
    · have hV := hV.2 h6
      refine jj_iload (pc2 := 81) hC dX11_mayCome_79 4 rfl rfl ?_
      refine jj_if_ne (pc2 := 84) hC 95 dX11_mayCome_81 (by decide) rfl (fun h7 => ?_) (fun h7 => ?_)
      · have hV := hV.1 h7
        refine jj_iconst (pc2 := 96) hC 1 dX11_mayCome_95 (by decide) rfl ?_
        refine jj_goto hC 100 dX11_mayCome_96 (by decide) ?_
        refine jj_istore (pc2 := 102) hC [(4, .int 1), (0, .ref (ad 0)), (1, .int x1), (2, .int x2), (3, .int x3), (5, .int x5)] dX11_mayCome_100 (by decide) rfl rfl ?_
        refine jj_iinc (pc2 := 105) hC (x5 + 1) [(5, .int (x5 + 1)), (4, .int 1), (0, .ref (ad 0)), (1, .int x1), (2, .int x2), (3, .int x3)] dX11_mayCome_102 5 rfl rfl (by decide) rfl rfl ?_
        refine jj_goto hC 73 dX11_mayCome_105 (by decide) ?_
        exact jj_sub (lv2 := [(0, .ref (ad 0)), (1, .int x1), (2, .int x2), (3, .int x3), (4, .int 1), (5, .int (x5 + 1))]) [2, 3, 4, 5, 1, 0] rfl (ih 1 (x5 + 1) hV)
      · have hV := hV.2 h7
        refine jj_aload_n (pc2 := 85) hC dX11_mayCome_84 rfl 0 rfl rfl ?_
        refine rg_53 (pc2 := 88) hC hi_X11_mayCome_X11 lk_X11_mayCome_1 dX11_mayCome_85 rfl ?_
        refine jj_iload (pc2 := 90) hC dX11_mayCome_88 5 rfl rfl ?_
        refine ra_53 (pc2 := 91) hC hV.1 dX11_mayCome_90 rfl ?_
        have hV := hV.2
        refine jj_iload_n (pc2 := 92) hC dX11_mayCome_91 rfl 3 rfl rfl ?_
        refine jj_icmp_ne (pc2 := 95) hC 99 dX11_mayCome_92 (by decide) rfl (fun h8 => ?_) (fun h8 => ?_)
        · have hV := hV.1 h8
          refine jj_iconst (pc2 := 100) hC 0 dX11_mayCome_99 (by decide) rfl ?_
          refine jj_istore (pc2 := 102) hC [(4, .int 0), (0, .ref (ad 0)), (1, .int x1), (2, .int x2), (3, .int x3), (5, .int x5)] dX11_mayCome_100 (by decide) rfl rfl ?_
          refine jj_iinc (pc2 := 105) hC (x5 + 1) [(5, .int (x5 + 1)), (4, .int 0), (0, .ref (ad 0)), (1, .int x1), (2, .int x2), (3, .int x3)] dX11_mayCome_102 5 rfl rfl (by decide) rfl rfl ?_
          refine jj_goto hC 73 dX11_mayCome_105 (by decide) ?_
          exact jj_sub (lv2 := [(0, .ref (ad 0)), (1, .int x1), (2, .int x2), (3, .int x3), (4, .int 0), (5, .int (x5 + 1))]) [2, 3, 4, 5, 1, 0] rfl (ih 0 (x5 + 1) hV)
        · have hV := hV.2 h8
          refine jj_iconst (pc2 := 96) hC 1 dX11_mayCome_95 (by decide) rfl ?_
          refine jj_goto hC 100 dX11_mayCome_96 (by decide) ?_
          refine jj_istore (pc2 := 102) hC [(4, .int 1), (0, .ref (ad 0)), (1, .int x1), (2, .int x2), (3, .int x3), (5, .int x5)] dX11_mayCome_100 (by decide) rfl rfl ?_
          refine jj_iinc (pc2 := 105) hC (x5 + 1) [(5, .int (x5 + 1)), (4, .int 1), (0, .ref (ad 0)), (1, .int x1), (2, .int x2), (3, .int x3)] dX11_mayCome_102 5 rfl rfl (by decide) rfl rfl ?_
          refine jj_goto hC 73 dX11_mayCome_105 (by decide) ?_
          exact jj_sub (lv2 := [(0, .ref (ad 0)), (1, .int x1), (2, .int x2), (3, .int x3), (4, .int 1), (5, .int (x5 + 1))]) [2, 3, 4, 5, 1, 0] rfl (ih 1 (x5 + 1) hV)
set_option maxHeartbeats 4000000 in
set_option maxRecDepth 100000 in
theorem ar_mayCome_34 {p : Program} {l : Launch} {e : Env} {s : State} {m : MethodId} {args : Array Value} {below : List Frame} {meth : Method} {c : Code} {D : va_G} {cs : Nat → ClassId} {Y X : va_W} {ad : Nat → Nat} {g0 : jm_M} (hC : JC p s m args meth c D vwCl (va_A (wr_d Y X cs ad g0) s.heap.size) 6 cX11_mayCome (some .boolean) wsX11_mayCome RX11 (jt_tys cs)) (x1 : Int32) (x2 : Int32) (Post : Int32 → Prop) : ∀ (f : Nat) (x3 : Int32), vr_mayCome_34 x1 x2 g0 Post f x3 → JJ (wr_d Y X cs ad) p l e rm_X11_mayCome s m args below meth c D vwCl (va_A (wr_d Y X cs ad g0) s.heap.size) 6 0 0 (MQ below (jj_QI (wr_d Y X cs ad) D vwCl (jt_tys cs) g0 s.heap.size (fun r g2 => Post r ∧ g2 = g0)) args s 0 0 (va_A (wr_d Y X cs ad g0) s.heap.size)) 34 [(0, .ref (ad 0)), (1, .int x1), (2, .int x2), (3, .int x3)] [] g0 := by
  intro f
  induction f with
  | zero => intro x3 hV; exact hV.elim
  | succ f ih =>
    intro x3 hV
    rw [vr_mayCome_34] at hV
    refine jj_iload_n (pc2 := 35) hC dX11_mayCome_34 rfl 3 rfl rfl ?_
    refine jj_iload_n (pc2 := 36) hC dX11_mayCome_35 rfl 2 rfl rfl ?_
    refine jj_icmp_ge (pc2 := 39) hC 121 dX11_mayCome_36 (by decide) rfl (fun h4 => ?_) (fun h4 => ?_)
    · have hV := hV.1 h4
      refine jj_iconst (pc2 := 122) hC 1 dX11_mayCome_121 (by decide) rfl ?_
      exact jj_zret hC jj_nb1 dX11_mayCome_122 ⟨hV, rfl⟩
    · have hV := hV.2 h4
      refine jj_aload_n (pc2 := 40) hC dX11_mayCome_39 rfl 0 rfl rfl ?_
      refine rg_41 (pc2 := 43) hC hi_X11_mayCome_X11 lk_X11_mayCome_2 dX11_mayCome_40 rfl ?_
      refine jj_aload_n (pc2 := 44) hC dX11_mayCome_43 rfl 0 rfl rfl ?_
      refine rg_52 (pc2 := 47) hC hi_X11_mayCome_X11 lk_X11_mayCome_3 dX11_mayCome_44 rfl ?_
      refine jj_iload_n (pc2 := 48) hC dX11_mayCome_47 rfl 3 rfl rfl ?_
      refine ra_52 (pc2 := 49) hC hV.1 dX11_mayCome_48 rfl ?_
      have hV := hV.2
      refine ra_41 (pc2 := 50) hC hV.1 dX11_mayCome_49 rfl ?_
      have hV := hV.2
      refine jj_aload_n (pc2 := 51) hC dX11_mayCome_50 rfl 0 rfl rfl ?_
      refine rg_41 (pc2 := 54) hC hi_X11_mayCome_X11 lk_X11_mayCome_2 dX11_mayCome_51 rfl ?_
      refine jj_aload_n (pc2 := 55) hC dX11_mayCome_54 rfl 0 rfl rfl ?_
      refine rg_52 (pc2 := 58) hC hi_X11_mayCome_X11 lk_X11_mayCome_3 dX11_mayCome_55 rfl ?_
      refine jj_iload_n (pc2 := 59) hC dX11_mayCome_58 rfl 2 rfl rfl ?_
      refine ra_52 (pc2 := 60) hC hV.1 dX11_mayCome_59 rfl ?_
      have hV := hV.2
      refine ra_41 (pc2 := 61) hC hV.1 dX11_mayCome_60 rfl ?_
      have hV := hV.2
      refine jj_icmp_eq (pc2 := 64) hC 67 dX11_mayCome_61 (by decide) rfl (fun h5 => ?_) (fun h5 => ?_)
      · have hV := hV.1 h5
        refine jj_iconst (pc2 := 68) hC 0 dX11_mayCome_67 (by decide) rfl ?_
        refine jj_istore (pc2 := 70) hC [(4, .int 0), (0, .ref (ad 0)), (1, .int x1), (2, .int x2), (3, .int x3)] dX11_mayCome_68 (by decide) rfl rfl ?_
        refine jj_iconst (pc2 := 71) hC 0 dX11_mayCome_70 (by decide) rfl ?_
        refine jj_istore (pc2 := 73) hC [(5, .int 0), (4, .int 0), (0, .ref (ad 0)), (1, .int x1), (2, .int x2), (3, .int x3)] dX11_mayCome_71 (by decide) rfl rfl ?_
        obtain ⟨n11, hV⟩ := hV
        refine jj_sub (lv2 := [(0, .ref (ad 0)), (1, .int x1), (2, .int x2), (3, .int x3), (4, .int 0), (5, .int 0)]) [2, 3, 4, 5, 1, 0] rfl (ar_mayCome_73 hC x1 x2 x3 Post _ (fun y9 hV => ?_) n11 0 0 hV)
        refine jj_iload (pc2 := 110) hC dX11_mayCome_108 4 rfl rfl ?_
        refine jj_if_ne (pc2 := 113) hC 115 dX11_mayCome_110 (by decide) rfl (fun h10 => ?_) (fun h10 => ?_)
        · have hV := hV.1 h10
          refine jj_iinc (pc2 := 118) hC (x3 + 1) [(3, .int (x3 + 1)), (0, .ref (ad 0)), (1, .int x1), (2, .int x2), (4, .int y9)] dX11_mayCome_115 3 rfl rfl (by decide) rfl rfl ?_
          refine jj_goto hC 34 dX11_mayCome_118 (by decide) ?_
          exact jj_sub (lv2 := [(0, .ref (ad 0)), (1, .int x1), (2, .int x2), (3, .int (x3 + 1))]) [1, 2, 3, 0] rfl (ih (x3 + 1) hV)
        · have hV := hV.2 h10
          refine jj_iconst (pc2 := 114) hC 0 dX11_mayCome_113 (by decide) rfl ?_
          exact jj_zret hC jj_nb0 dX11_mayCome_114 ⟨hV, rfl⟩
      · have hV := hV.2 h5
        refine jj_goto hC 115 dX11_mayCome_64 (by decide) ?_
        refine jj_iinc (pc2 := 118) hC (x3 + 1) [(3, .int (x3 + 1)), (0, .ref (ad 0)), (1, .int x1), (2, .int x2)] dX11_mayCome_115 3 rfl rfl (by decide) rfl rfl ?_
        refine jj_goto hC 34 dX11_mayCome_118 (by decide) ?_
        exact jj_sub (lv2 := [(0, .ref (ad 0)), (1, .int x1), (2, .int x2), (3, .int (x3 + 1))]) [1, 2, 3, 0] rfl (ih (x3 + 1) hV)
set_option maxHeartbeats 4000000 in
set_option maxRecDepth 100000 in
theorem cr_mayCome (l : Launch) (D : va_G) (cs : Nat → ClassId) (Y X : va_W) (ad : Nat → Nat) (a1 : Int32) (g0 : jm_M) (Post : Int32 → Prop) (hV : vr_mayCome a1 g0 Post) : JI (wr_d Y X cs ad) D vwCl (jt_tys cs) l yX11_mayCome wsX11_mayCome rm_X11_mayCome 0 0 [.ref (ad 0), .int a1] g0 (fun r g2 => Post r ∧ g2 = g0) := by
  refine jj_metI (cc := cX11_mayCome) (nL := 6) (ret := (some .boolean)) (by decide) rfl (Nat.le_of_ble_eq_true rfl) [(0, .ref (ad 0)), (1, .int a1)] rfl ?_
  intro p e s m args below meth c hC hnm
  rw [vr_mayCome] at hV
  refine jj_aload_n (pc2 := 1) hC dX11_mayCome_0 rfl 0 rfl rfl ?_
  refine rg_53 (pc2 := 4) hC hi_X11_mayCome_X11 lk_X11_mayCome_1 dX11_mayCome_1 rfl ?_
  refine jj_iload_n (pc2 := 5) hC dX11_mayCome_4 rfl 1 rfl rfl ?_
  refine ra_53 (pc2 := 6) hC hV.1 dX11_mayCome_5 rfl ?_
  have hV := hV.2
  refine jj_topi (fun y1 ey1 => ?_)
  have hV := hV y1 ey1
  refine jj_istore_n (pc2 := 7) hC [(2, .int y1), (0, .ref (ad 0)), (1, .int a1)] dX11_mayCome_6 rfl (by decide) rfl rfl ?_
  refine jj_iconst (pc2 := 8) hC 0 dX11_mayCome_7 (by decide) rfl ?_
  refine jj_istore_n (pc2 := 9) hC [(3, .int 0), (2, .int y1), (0, .ref (ad 0)), (1, .int a1)] dX11_mayCome_8 rfl (by decide) rfl rfl ?_
  obtain ⟨n13, hV⟩ := hV
  refine jj_sub (lv2 := [(0, .ref (ad 0)), (1, .int a1), (2, .int y1), (3, .int 0)]) [2, 3, 1, 0] rfl (ar_mayCome_9 hC a1 y1 Post _ (fun hV => ?_) n13 0 hV)
  refine jj_iconst (pc2 := 33) hC 0 dX11_mayCome_32 (by decide) rfl ?_
  refine jj_istore_n (pc2 := 34) hC [(3, .int 0), (0, .ref (ad 0)), (1, .int a1), (2, .int y1)] dX11_mayCome_33 rfl (by decide) rfl rfl ?_
  obtain ⟨n12, hV⟩ := hV
  refine jj_sub (lv2 := [(0, .ref (ad 0)), (1, .int a1), (2, .int y1), (3, .int 0)]) [1, 2, 3, 0] rfl (ar_mayCome_34 hC a1 y1 Post n12 0 hV)
theorem hi_X11_breaks_X11 : ∀ w ∈ u_ws RX11 TX11 63, w ∈ wsX11_breaks := fun _ h => List.mem_cons_of_mem _ (List.mem_append_right _ h)
theorem lk_X11_breaks_2 : Cond.fieldLink RX11 34 "PartedHouseModel" "fresh" "[I" ∈ wsX11_breaks := List.mem_of_getElem? (i := 2) rfl
theorem lk_X11_breaks_1 : Cond.fieldLink RX11 37 "PartedHouseModel" "work" "[I" ∈ wsX11_breaks := List.mem_of_getElem? (i := 1) rfl
theorem lk_X11_breaks_7 : Cond.fieldLink RX11 101 "PartedHouseModel" "letterSays" "[I" ∈ wsX11_breaks := List.mem_of_getElem? (i := 7) rfl
theorem lk_X11_breaks_6 : Cond.fieldLink RX11 98 "PartedHouseModel" "letterCell" "[I" ∈ wsX11_breaks := List.mem_of_getElem? (i := 6) rfl
theorem lk_X11_breaks_5 : Cond.fieldLink RX11 128 "PartedHouseModel" "order" "[I" ∈ wsX11_breaks := List.mem_of_getElem? (i := 5) rfl
theorem lk_X11_breaks_4 : Cond.fieldLink RX11 125 "PartedHouseModel" "waiting" "[I" ∈ wsX11_breaks := List.mem_of_getElem? (i := 4) rfl
theorem lk_X11_breaks_3 : Cond.fieldLink RX11 265 "PartedHouseModel" "many" "I" ∈ wsX11_breaks := List.mem_of_getElem? (i := 3) rfl
abbrev rm_X11_breaks : Room := { frames := 1, cells := 0, slots := 0, locals := 25 }
def vr_breaks_2 (x1 : Int32) (K27 : jm_M → Prop) (Post : Int32 → jm_M → Prop) : Nat → Int32 → jm_M → Prop
  | 0, _, _ => False
  | f + 1, x2, g => ((128 ≤ x2) → (K27 g)) ∧ ((¬ 128 ≤ x2) → ((vp_in x2 128) ∧ ((vp_in x2 128) ∧ (∀ g2 : jm_M, g2 = jm_a g 13 x2 (g 12 x2.toNatClampNeg) → (vr_breaks_2 x1 K27 Post f (x2 + 1) g2)))))
def vr_breaks_43 (x1 : Int32) (Post : Int32 → jm_M → Prop) : Nat → Int32 → jm_M → Prop
  | 0, _, _ => False
  | f + 1, x2, g => (((g 51 0) ≤ x2) → (Post 0 g)) ∧ ((¬ (g 51 0) ≤ x2) → ((vp_in x2 7) ∧ ((vp_in (g 53 x2.toNatClampNeg) 6) ∧ (∀ y7 : Int32, y7 = g 52 (g 53 x2.toNatClampNeg).toNatClampNeg → ((vp_in y7 2000) ∧ ((vp_in y7 2000) ∧ ((vp_in (g 41 y7.toNatClampNeg) 128) ∧ (∀ g8 : jm_M, g8 = jm_a g 13 (g 41 y7.toNatClampNeg) (g 42 y7.toNatClampNeg) → (vr_doesHold 13 x1 g8 (fun (r9 : Int32) => ((¬ r9 = 0) → (vr_breaks_43 x1 Post f (x2 + 1) g8)) ∧ ((r9 = 0) → (Post 1 g8))))))))))))
def vr_breaks (a1 : Int32) (g0 : jm_M) (Post : Int32 → jm_M → Prop) : Prop := ∃ n12 : Nat, vr_breaks_2 a1 (fun (g3 : jm_M) => vr_doesHold 13 a1 g3 (fun (r4 : Int32) => ((¬ r4 = 0) → (∃ n11 : Nat, vr_breaks_43 a1 Post n11 0 g3)) ∧ ((r4 = 0) → (Post 1 g3)))) Post n12 0 g0
set_option maxHeartbeats 4000000 in
set_option maxRecDepth 100000 in
theorem ar_breaks_2 {p : Program} {l : Launch} {e : Env} {s : State} {m : MethodId} {args : Array Value} {below : List Frame} {meth : Method} {c : Code} {D : va_G} {cs : Nat → ClassId} {Y X : va_W} {ad : Nat → Nat} {g0 : jm_M} (hC : JC p s m args meth c D vwCl (va_A (wr_d Y X cs ad g0) s.heap.size) 4 cX11_breaks (some .boolean) wsX11_breaks RX11 (jt_tys cs)) (x1 : Int32) (Post : Int32 → jm_M → Prop) (K27 : jm_M → Prop) (hK27 : ∀ (g : jm_M) , K27 g → JJ (wr_d Y X cs ad) p l e rm_X11_breaks s m args below meth c D vwCl (va_A (wr_d Y X cs ad g0) s.heap.size) 4 0 0 (MQ below (jj_QI (wr_d Y X cs ad) D vwCl (jt_tys cs) g0 s.heap.size Post) args s 0 0 (va_A (wr_d Y X cs ad g0) s.heap.size)) 27 [(0, .ref (ad 0)), (1, .int x1)] [] g) : ∀ (f : Nat) (x2 : Int32) (g : jm_M), vr_breaks_2 x1 K27 Post f x2 g → JJ (wr_d Y X cs ad) p l e rm_X11_breaks s m args below meth c D vwCl (va_A (wr_d Y X cs ad g0) s.heap.size) 4 0 0 (MQ below (jj_QI (wr_d Y X cs ad) D vwCl (jt_tys cs) g0 s.heap.size Post) args s 0 0 (va_A (wr_d Y X cs ad g0) s.heap.size)) 2 [(0, .ref (ad 0)), (1, .int x1), (2, .int x2)] [] g := by
  intro f
  induction f with
  | zero => intro x2 g hV; exact hV.elim
  | succ f ih =>
    intro x2 g hV
    rw [vr_breaks_2] at hV
    refine jj_iload_n (pc2 := 3) hC dX11_breaks_2 rfl 2 rfl rfl ?_
    refine jj_sipush (pc2 := 6) hC 128 dX11_breaks_3 (by decide) rfl ?_
    refine jj_icmp_ge (pc2 := 9) hC 27 dX11_breaks_6 (by decide) rfl (fun h1 => ?_) (fun h1 => ?_)
    · have hV := hV.1 h1
      exact jj_sub (lv2 := [(0, .ref (ad 0)), (1, .int x1)]) [0, 1] rfl (hK27 g hV)
    · have hV := hV.2 h1
      refine jj_aload_n (pc2 := 10) hC dX11_breaks_9 rfl 0 rfl rfl ?_
      refine rg_13 (pc2 := 13) hC hi_X11_breaks_X11 lk_X11_breaks_1 dX11_breaks_10 rfl ?_
      refine jj_iload_n (pc2 := 14) hC dX11_breaks_13 rfl 2 rfl rfl ?_
      refine jj_aload_n (pc2 := 15) hC dX11_breaks_14 rfl 0 rfl rfl ?_
      refine rg_12 (pc2 := 18) hC hi_X11_breaks_X11 lk_X11_breaks_2 dX11_breaks_15 rfl ?_
      refine jj_iload_n (pc2 := 19) hC dX11_breaks_18 rfl 2 rfl rfl ?_
      refine ra_12 (pc2 := 20) hC hV.1 dX11_breaks_19 rfl ?_
      have hV := hV.2
      refine rs_13 (pc2 := 21) hC hV.1 dX11_breaks_20 rfl (fun g2 eg2 => ?_)
      have hV := hV.2 g2 eg2
      refine jj_iinc (pc2 := 24) hC (x2 + 1) [(2, .int (x2 + 1)), (0, .ref (ad 0)), (1, .int x1)] dX11_breaks_21 2 rfl rfl (by decide) rfl rfl ?_
      refine jj_goto hC 2 dX11_breaks_24 (by decide) ?_
      exact jj_sub (lv2 := [(0, .ref (ad 0)), (1, .int x1), (2, .int (x2 + 1))]) [1, 2, 0] rfl (ih (x2 + 1) g2 hV)
set_option maxHeartbeats 4000000 in
set_option maxRecDepth 100000 in
theorem ar_breaks_43 {p : Program} {l : Launch} {e : Env} {s : State} {m : MethodId} {args : Array Value} {below : List Frame} {meth : Method} {c : Code} {D : va_G} {cs : Nat → ClassId} {Y X : va_W} {ad : Nat → Nat} {g0 : jm_M} (hC : JC p s m args meth c D vwCl (va_A (wr_d Y X cs ad g0) s.heap.size) 4 cX11_breaks (some .boolean) wsX11_breaks RX11 (jt_tys cs)) (x1 : Int32) (Post : Int32 → jm_M → Prop) : ∀ (f : Nat) (x2 : Int32) (g : jm_M), vr_breaks_43 x1 Post f x2 g → JJ (wr_d Y X cs ad) p l e rm_X11_breaks s m args below meth c D vwCl (va_A (wr_d Y X cs ad g0) s.heap.size) 4 0 0 (MQ below (jj_QI (wr_d Y X cs ad) D vwCl (jt_tys cs) g0 s.heap.size Post) args s 0 0 (va_A (wr_d Y X cs ad g0) s.heap.size)) 43 [(0, .ref (ad 0)), (1, .int x1), (2, .int x2)] [] g := by
  intro f
  induction f with
  | zero => intro x2 g hV; exact hV.elim
  | succ f ih =>
    intro x2 g hV
    rw [vr_breaks_43] at hV
    refine jj_iload_n (pc2 := 44) hC dX11_breaks_43 rfl 2 rfl rfl ?_
    refine jj_aload_n (pc2 := 45) hC dX11_breaks_44 rfl 0 rfl rfl ?_
    refine rg_51 (pc2 := 48) hC hi_X11_breaks_X11 lk_X11_breaks_3 dX11_breaks_45 rfl ?_
    refine jj_icmp_ge (pc2 := 51) hC 100 dX11_breaks_48 (by decide) rfl (fun h6 => ?_) (fun h6 => ?_)
    · have hV := hV.1 h6
      refine jj_iconst (pc2 := 101) hC 0 dX11_breaks_100 (by decide) rfl ?_
      exact jj_zret hC jj_nb0 dX11_breaks_101 hV
    · have hV := hV.2 h6
      refine jj_aload_n (pc2 := 52) hC dX11_breaks_51 rfl 0 rfl rfl ?_
      refine rg_52 (pc2 := 55) hC hi_X11_breaks_X11 lk_X11_breaks_4 dX11_breaks_52 rfl ?_
      refine jj_aload_n (pc2 := 56) hC dX11_breaks_55 rfl 0 rfl rfl ?_
      refine rg_53 (pc2 := 59) hC hi_X11_breaks_X11 lk_X11_breaks_5 dX11_breaks_56 rfl ?_
      refine jj_iload_n (pc2 := 60) hC dX11_breaks_59 rfl 2 rfl rfl ?_
      refine ra_53 (pc2 := 61) hC hV.1 dX11_breaks_60 rfl ?_
      have hV := hV.2
      refine ra_52 (pc2 := 62) hC hV.1 dX11_breaks_61 rfl ?_
      have hV := hV.2
      refine jj_topi (fun y7 ey7 => ?_)
      have hV := hV y7 ey7
      refine jj_istore_n (pc2 := 63) hC [(3, .int y7), (0, .ref (ad 0)), (1, .int x1), (2, .int x2)] dX11_breaks_62 rfl (by decide) rfl rfl ?_
      refine jj_aload_n (pc2 := 64) hC dX11_breaks_63 rfl 1 rfl rfl ?_
      refine rg_13 (pc2 := 67) hC hi_X11_breaks_X11 lk_X11_breaks_1 dX11_breaks_64 rfl ?_
      refine jj_aload_n (pc2 := 68) hC dX11_breaks_67 rfl 1 rfl rfl ?_
      refine rg_41 (pc2 := 71) hC hi_X11_breaks_X11 lk_X11_breaks_6 dX11_breaks_68 rfl ?_
      refine jj_iload_n (pc2 := 72) hC dX11_breaks_71 rfl 0 rfl rfl ?_
      refine ra_41 (pc2 := 73) hC hV.1 dX11_breaks_72 rfl ?_
      have hV := hV.2
      refine jj_aload_n (pc2 := 74) hC dX11_breaks_73 rfl 1 rfl rfl ?_
      refine rg_42 (pc2 := 77) hC hi_X11_breaks_X11 lk_X11_breaks_7 dX11_breaks_74 rfl ?_
      refine jj_iload_n (pc2 := 78) hC dX11_breaks_77 rfl 0 rfl rfl ?_
      refine ra_42 (pc2 := 79) hC hV.1 dX11_breaks_78 rfl ?_
      have hV := hV.2
      refine rs_13 (pc2 := 80) hC hV.1 dX11_breaks_79 rfl (fun g8 eg8 => ?_)
      have hV := hV.2 g8 eg8
      refine jj_aload_n (pc2 := 81) hC dX11_breaks_80 rfl 1 rfl rfl ?_
      refine jj_iload_n (pc2 := 82) hC dX11_breaks_81 rfl 2 rfl rfl ?_
      refine jj_aload_n (pc2 := 83) hC dX11_breaks_82 rfl 1 rfl rfl ?_
      refine rg_13 (pc2 := 86) hC hi_X11_breaks_X11 lk_X11_breaks_1 dX11_breaks_83 rfl ?_
      refine jj_cVIp (pc2 := 89) (wd := wr_d Y X cs ad) (g := g8) (rest := []) hC (Y.length + 0) (jx_at (V := wr_W cs ad g8) rfl) rfl rfl (cr_doesHold_13 l D cs Y X ad x1 g8 _ hV) (cwV 2 hC.1.2.2.2.2 gX11_breaks_X11_doesHold rfl rfl rfl (by decide +kernel) ⟨by decide, by decide⟩) rfl (Nat.le_of_ble_eq_true rfl) _ rfl dX11_breaks_86 ⟨Nat.zero_le _, Nat.zero_le _⟩ rfl (fun r9 hV => ?_)
      refine jj_if_ne (pc2 := 92) hC 94 dX11_breaks_89 (by decide) rfl (fun h10 => ?_) (fun h10 => ?_)
      · have hV := hV.1 h10
        refine jj_iinc (pc2 := 97) hC (x2 + 1) [(2, .int (x2 + 1)), (3, .int y7), (0, .ref (ad 0)), (1, .int x1)] dX11_breaks_94 3 rfl rfl (by decide) rfl rfl ?_
        refine jj_goto hC 43 dX11_breaks_97 (by decide) ?_
        exact jj_sub (lv2 := [(0, .ref (ad 0)), (1, .int x1), (2, .int (x2 + 1))]) [2, 3, 0] rfl (ih (x2 + 1) g8 hV)
      · have hV := hV.2 h10
        refine jj_iconst (pc2 := 93) hC 1 dX11_breaks_92 (by decide) rfl ?_
        exact jj_zret hC jj_nb1 dX11_breaks_93 hV
set_option maxHeartbeats 4000000 in
set_option maxRecDepth 100000 in
theorem cr_breaks (l : Launch) (D : va_G) (cs : Nat → ClassId) (Y X : va_W) (ad : Nat → Nat) (a1 : Int32) (g0 : jm_M) (Post : Int32 → jm_M → Prop) (hV : vr_breaks a1 g0 Post) : JI (wr_d Y X cs ad) D vwCl (jt_tys cs) l yX11_breaks wsX11_breaks rm_X11_breaks 0 0 [.ref (ad 0), .int a1] g0 Post := by
  refine jj_metI (cc := cX11_breaks) (nL := 4) (ret := (some .boolean)) (by decide) rfl (Nat.le_of_ble_eq_true rfl) [(0, .ref (ad 0)), (1, .int a1)] rfl ?_
  intro p e s m args below meth c hC hnm
  rw [vr_breaks] at hV
  refine jj_iconst (pc2 := 1) hC 0 dX11_breaks_0 (by decide) rfl ?_
  refine jj_istore_n (pc2 := 2) hC [(2, .int 0), (0, .ref (ad 0)), (1, .int a1)] dX11_breaks_1 rfl (by decide) rfl rfl ?_
  obtain ⟨n12, hV⟩ := hV
  refine jj_sub (lv2 := [(0, .ref (ad 0)), (1, .int a1), (2, .int 0)]) [1, 2, 0] rfl (ar_breaks_2 hC a1 Post _ (fun g3 hV => ?_) n12 0 g0 hV)
  refine jj_aload_n (pc2 := 28) hC dX11_breaks_27 rfl 0 rfl rfl ?_
  refine jj_iload_n (pc2 := 29) hC dX11_breaks_28 rfl 1 rfl rfl ?_
  refine jj_aload_n (pc2 := 30) hC dX11_breaks_29 rfl 0 rfl rfl ?_
  refine rg_13 (pc2 := 33) hC hi_X11_breaks_X11 lk_X11_breaks_1 dX11_breaks_30 rfl ?_
  refine jj_cVIp (pc2 := 36) (wd := wr_d Y X cs ad) (g := g3) (rest := []) hC (Y.length + 0) (jx_at (V := wr_W cs ad g3) rfl) rfl rfl (cr_doesHold_13 l D cs Y X ad a1 g3 _ hV) (cwV 2 hC.1.2.2.2.2 gX11_breaks_X11_doesHold rfl rfl rfl (by decide +kernel) ⟨by decide, by decide⟩) rfl (Nat.le_of_ble_eq_true rfl) _ rfl dX11_breaks_33 ⟨Nat.zero_le _, Nat.zero_le _⟩ rfl (fun r4 hV => ?_)
  refine jj_if_ne (pc2 := 39) hC 41 dX11_breaks_36 (by decide) rfl (fun h5 => ?_) (fun h5 => ?_)
  · have hV := hV.1 h5
    refine jj_iconst (pc2 := 42) hC 0 dX11_breaks_41 (by decide) rfl ?_
    refine jj_istore_n (pc2 := 43) hC [(2, .int 0), (0, .ref (ad 0)), (1, .int a1)] dX11_breaks_42 rfl (by decide) rfl rfl ?_
    obtain ⟨n11, hV⟩ := hV
    refine jj_sub (lv2 := [(0, .ref (ad 0)), (1, .int a1), (2, .int 0)]) [1, 2, 0] rfl (ar_breaks_43 hC a1 Post n11 0 g3 hV)
  · have hV := hV.2 h5
    refine jj_iconst (pc2 := 40) hC 1 dX11_breaks_39 (by decide) rfl ?_
    exact jj_zret hC jj_nb1 dX11_breaks_40 hV
