/-- an index of two numbers -/
theorem ij {a b k : Nat} (hk : k < 2 ^ 31) : nI k * nI a + nI b = nI (k * a + b) := by rw [pk_mul, nI_add]
theorem ij' {a b k : Nat} (hk : k < 2 ^ 31) : nI a * nI k + nI b = nI (k * a + b) := by rw [pk_mul, nI_add, Nat.mul_comm]
theorem op_cell {B : Nat} {gC : cm_M} {gR : jm_M} (h : b_R B gC gR) (a b c : Int32) : ∃ (r : Int32), (∀ P : Int32 → Prop, P r → vc_X10_cell a b c gC P) ∧ (∀ P : Int32 → Prop, P r → vr_cell a b c gR P) := by
  obtain ⟨M, T, N, hT, hX, ht, ⟨⟨y1, y2, y3⟩, hr, hk, hu, hs, hl⟩, hW, hP, hA, hI⟩ := id h
  obtain ⟨hM, hT16, hN, c12, r1, c13, r3, c14, r5, -⟩ := id hT
  have hH : ∀ P : Int32 → Prop, vc_X10_isHouse a gC P ↔ P (if a < 0 ∨ 1 < a then 0 else 1) := by
    intro P
    have e0 : a = 0 ∨ a = 1 ↔ ¬ (a < 0 ∨ 1 < a) := by
      rw [Int32.lt_iff_toInt_lt, Int32.lt_iff_toInt_lt, ← Int32.toInt_inj, ← Int32.toInt_inj]
      have q0 : (0 : Int32).toInt = 0 := by decide
      have q1 : (1 : Int32).toInt = 1 := by decide
      omega
    unfold vc_X10_isHouse
    by_cases q0 : a = 0
    · have := e0.mp (Or.inl q0); simp [q0]
    · by_cases q1 : a = 1
      · simp [q1]
      · have q2 : a < 0 ∨ 1 < a := by
          rcases Classical.em (a < 0 ∨ 1 < a) with z | z
          · exact z
          · rcases e0.mpr z with z | z
            · exact absurd z q0
            · exact absurd z q1
        simp [q0, q1, q2]
  by_cases h1 : a < 0 ∨ 1 < a
  · refine ⟨-2000000000, fun P hp => ?_, fun P hp => ?_⟩
    · simp only [vc_X10_cell, hH, h1, if_true]; exact ⟨fun _ => hp, fun q => (q (by trivial)).elim⟩
    · simp only [vr_cell, vr_in_iff, h1, if_true]; exact ⟨fun _ => hp, fun q => (q (by trivial)).elim⟩
  rcases ix_cases b (n := T) (by omega) with h2 | ⟨t, ht', rfl, h2⟩
  · refine ⟨-2000000000, fun P hp => ?_, fun P hp => ?_⟩
    · simp only [vc_X10_cell, hH, vc_hasCell_iff c13, h1, h2, true_or, if_true, if_false]
      exact ⟨fun q => absurd q (by decide), fun _ => ⟨fun q => (q (by trivial)).elim, fun _ => hp⟩⟩
    · simp only [vr_cell, vr_in_iff, vr_isTable_iff hT16 r3, h1, h2, if_true, if_false]
      exact ⟨fun q => absurd q (by decide), fun _ => ⟨fun _ => hp, fun q => (q (by trivial)).elim⟩⟩
  by_cases h3 : c < 0 ∨ 7 < c
  · refine ⟨-2000000000, fun P hp => ?_, fun P hp => ?_⟩
    · simp only [vc_X10_cell, hH, vc_hasCell_iff c13, h1, h2, h3, or_true, if_true, if_false]
      exact ⟨fun q => absurd q (by decide), fun _ => ⟨fun q => (q (by trivial)).elim, fun _ => hp⟩⟩
    · simp only [vr_cell, vr_in_iff, vr_isTable_iff hT16 r3, h1, h2, h3, if_true, if_false]
      exact ⟨fun q => absurd q (by decide), fun _ => ⟨fun q => absurd q (by decide), fun _ => ⟨fun q => (q (by trivial)).elim, fun _ => hp⟩⟩⟩
  obtain ⟨k, hk8, rfl⟩ : ∃ i : Nat, i < 8 ∧ c = nI i := ni_le (n := 8) (by omega) (fun q => h3 (Or.inl q)) (fun q => h3 (Or.inr ((i_lt_le c 7 8 (by decide)).mp q)))
  have hin : vp_in (nI (8 * t + k)) 128 := vp_in_nI (by omega) (by omega)
  have ea : nI t * 8 + nI k = nI (8 * t + k) := ij' (k := 8) (by omega)
  have eb : (8 : Int32) * nI t + nI k = nI (8 * t + k) := ij (k := 8) (by omega)
  refine ⟨if a = 0 then gR 11 (8 * t + k) else gR 12 (8 * t + k), fun P hp => ?_, fun P hp => ?_⟩
  · simp only [vc_X10_cell, hH, vc_hasCell_iff c13, h1, h2, h3, or_self, if_false, ea, tn_nI (show 8 * t + k < 2 ^ 31 by omega), y1 (8 * t + k) (by omega), y2 (8 * t + k) (by omega)]
    refine ⟨fun q => absurd q (by decide), fun _ => ⟨fun _ => ⟨fun q => ⟨hin, ?_⟩, fun q => ⟨hin, ?_⟩⟩, fun q => absurd q (by decide)⟩⟩
    · rw [if_pos q] at hp; exact hp
    · rw [if_neg q] at hp; exact hp
  · simp only [vr_cell, vr_in_iff, vr_isTable_iff hT16 r3, h1, h2, h3, if_false, eb, tn_nI (show 8 * t + k < 2 ^ 31 by omega)]
    refine ⟨fun q => absurd q (by decide), fun _ => ⟨fun q => absurd q (by decide), fun _ => ⟨fun _ => ⟨fun q => ⟨hin, ?_⟩, fun q => ⟨hin, ?_⟩⟩, fun q => absurd q (by decide)⟩⟩⟩
    · rw [if_neg q] at hp; exact hp
    · rw [if_pos q] at hp; exact hp
/-- the two ways to ask for a place of a tie -/
theorem ties_iff {M T : Nat} {gC : cm_M} {gR : jm_M} (hM : M ≤ 10) (hT16 : T ≤ 16) (c12 : gC.2.2 12 0 = nI M) (r1 : gR 1 0 = nI M) (c13 : gC.2.2 13 0 = nI T) (r3 : gR 3 0 = nI T) (a b c : Int32) : ((∀ P : Int32 → Prop, P 0 → vc_X9_hasTiePlace a b c gC P) ∧ (∀ P : Int32 → Prop, P 0 → vr_isCount a b c gR P)) ∨ (∃ m x k : Nat, m < M ∧ b = nI m ∧ c = nI x ∧ ((a = 0 ∧ x < M ∧ k = 10 * m + x) ∨ (a = 1 ∧ x < T ∧ k = 100 + (16 * m + x)) ∨ (a = 2 ∧ x < T ∧ k = 260 + (16 * m + x))) ∧ (∀ P : Int32 → Prop, P 1 → vc_X9_hasTiePlace a b c gC P) ∧ (∀ P : Int32 → Prop, P 1 → vr_isCount a b c gR P) ∧ (∀ P : Int32 → Prop, P (nI k) → vc_X10_tiePlace a b c gC P)) := by
  by_cases h1 : a < 0 ∨ 2 < a
  · left
    refine ⟨fun P hp => ?_, fun P hp => ?_⟩
    · unfold vc_X9_hasTiePlace
      exact ⟨fun _ => hp, fun q => ⟨fun _ => hp, fun q2 => absurd h1 (not_or.mpr ⟨q, q2⟩)⟩⟩
    · simp only [vr_isCount, vr_in_iff, h1, if_true]; exact ⟨fun _ => hp, fun q => (q (by trivial)).elim⟩
  have h1' := not_or.mp h1
  rcases ix_cases b (n := M) (by omega) with h2 | ⟨m, hm, rfl, h2⟩
  · left
    refine ⟨fun P hp => ?_, fun P hp => ?_⟩
    · simp only [vc_X9_hasTiePlace, vc_hasModule_iff c12, h1'.1, h1'.2, h2, if_true, false_implies, true_and, not_false_eq_true, true_implies, not_true_eq_false]; exact hp
    · simp only [vr_isCount, vr_in_iff, vr_isModule_iff hM r1, h1, h2, if_true, if_false]
      exact ⟨fun q => absurd q (by decide), fun _ => ⟨fun _ => hp, fun q => (q (by trivial)).elim⟩⟩
  by_cases ha : a = 0
  · rcases ix_cases c (n := M) (by omega) with h3 | ⟨x, hx, rfl, h3⟩
    · left
      refine ⟨fun P hp => ?_, fun P hp => ?_⟩
      · simp only [vc_X9_hasTiePlace, vc_hasModule_iff c12, h1'.1, h1'.2, h2, h3, ha, if_true, if_false]
        exact ⟨fun _ => hp, fun _ => ⟨fun _ => hp, fun _ => ⟨fun _ => ⟨fun q => (q (by trivial)).elim, fun _ => ⟨jj_nb0, hp⟩⟩, fun q => absurd q (by decide)⟩⟩⟩
      · simp only [vr_isCount, vr_in_iff, vr_isModule_iff hM r1, h1, h2, h3, if_true, if_false]
        exact ⟨fun q => absurd q (by decide), fun _ => ⟨fun q => absurd q (by decide), fun _ => ⟨fun q => absurd ha q, fun _ => ⟨fun _ => hp, fun q => (q (by trivial)).elim⟩⟩⟩⟩
    · right
      refine ⟨m, x, 10 * m + x, hm, rfl, rfl, Or.inl ⟨ha, hx, rfl⟩, fun P hp => ?_, fun P hp => ?_, fun P hp => ?_⟩
      · simp only [vc_X9_hasTiePlace, vc_hasModule_iff c12, h1'.1, h1'.2, h2, h3, ha, if_false]
        exact ⟨fun q => absurd q (by decide), fun _ => ⟨fun q => absurd q (by decide), fun _ => ⟨fun _ => ⟨fun q => (q (by trivial)).elim, fun _ => ⟨jj_nb1, hp⟩⟩, fun q => absurd q (by decide)⟩⟩⟩
      · simp only [vr_isCount, vr_in_iff, vr_isModule_iff hM r1, h1, h2, h3, if_false]
        exact ⟨fun q => absurd q (by decide), fun _ => ⟨fun q => absurd q (by decide), fun _ => ⟨fun q => absurd ha q, fun _ => ⟨fun q => absurd q (by decide), fun _ => hp⟩⟩⟩⟩
      · unfold vc_X10_tiePlace
        refine ⟨fun q => absurd ha q, fun _ => ?_⟩
        rw [show nI m * 10 + nI x = nI (10 * m + x) from ij' (k := 10) (by omega)]; exact hp
  · have ha2 : a = 1 ∨ a = 2 := by
      rw [Int32.lt_iff_toInt_lt, Int32.lt_iff_toInt_lt] at h1'
      rw [← Int32.toInt_inj] at ha
      rw [← Int32.toInt_inj, ← Int32.toInt_inj]
      have q0 : (0 : Int32).toInt = 0 := by decide
      have q1 : (1 : Int32).toInt = 1 := by decide
      have q2 : (2 : Int32).toInt = 2 := by decide
      omega
    rcases ix_cases c (n := T) (by omega) with h3 | ⟨x, hx, rfl, h3⟩
    · left
      refine ⟨fun P hp => ?_, fun P hp => ?_⟩
      · simp only [vc_X9_hasTiePlace, vc_hasModule_iff c12, vc_hasTable_iff c13, h1'.1, h1'.2, h2, h3, ha, if_true, if_false]
        exact ⟨fun _ => hp, fun _ => ⟨fun _ => hp, fun _ => ⟨fun _ => ⟨fun _ => ⟨jj_nb0, hp⟩, fun q => q.elim⟩, fun q => absurd q (by decide)⟩⟩⟩
      · simp only [vr_isCount, vr_in_iff, vr_isModule_iff hM r1, vr_isTable_iff hT16 r3, h1, h2, h3, if_true, if_false]
        exact ⟨fun q => absurd q (by decide), fun _ => ⟨fun q => absurd q (by decide), fun _ => ⟨fun _ => ⟨fun _ => hp, fun q => (q (by trivial)).elim⟩, fun q => absurd q ha⟩⟩⟩
    · right
      refine ⟨m, x, if a = 1 then 100 + (16 * m + x) else 260 + (16 * m + x), hm, rfl, rfl, ?_, fun P hp => ?_, fun P hp => ?_, fun P hp => ?_⟩
      · rcases ha2 with rfl | rfl
        · exact Or.inr (Or.inl ⟨rfl, hx, by simp⟩)
        · exact Or.inr (Or.inr ⟨rfl, hx, by simp⟩)
      · simp only [vc_X9_hasTiePlace, vc_hasModule_iff c12, vc_hasTable_iff c13, h1'.1, h1'.2, h2, h3, ha, if_false]
        exact ⟨fun q => q.elim, fun _ => ⟨fun q => q.elim, fun _ => ⟨fun _ => ⟨fun _ => ⟨jj_nb1, hp⟩, fun q => q.elim⟩, fun q => absurd q (by decide)⟩⟩⟩
      · simp only [vr_isCount, vr_in_iff, vr_isModule_iff hM r1, vr_isTable_iff hT16 r3, h1, h2, h3, if_false]
        exact ⟨fun q => absurd q (by decide), fun _ => ⟨fun q => absurd q (by decide), fun _ => ⟨fun _ => ⟨fun q => absurd q (by decide), fun _ => hp⟩, fun q => absurd q ha⟩⟩⟩
      · have e1 : ∀ k : Nat, nI k + nI m * 16 + nI x = nI (k + (16 * m + x)) := fun k => by
          rw [show nI m * 16 = nI (m * 16) from pk_mul m 16, nI_add, nI_add]; congr 1; omega
        unfold vc_X10_tiePlace
        refine ⟨fun _ => ⟨fun q => ?_, fun q => ?_⟩, fun q => absurd q ha⟩
        · rw [if_neg q] at hp
          rw [show (260 : Int32) + nI m * 16 + nI x = _ from e1 260]; exact hp
        · rw [if_pos q] at hp
          rw [show (100 : Int32) + nI m * 16 + nI x = _ from e1 100]; exact hp
theorem op_counted {B : Nat} {gC : cm_M} {gR : jm_M} (h : b_R B gC gR) (a b c : Int32) : ∃ (r : Int32), (∀ P : Int32 → Prop, P r → vc_X10_counted a b c gC P) ∧ (∀ P : Int32 → Prop, P r → vr_counted a b c gR P) := by
  obtain ⟨M, T, N, hT, hX, ht, ⟨hc, hr, ⟨k1, k2, k3, k4⟩, hu, hs, hl⟩, hW, hP, hA, hI⟩ := id h
  obtain ⟨hM, hT16, hN, c12, r1, c13, r3, c14, r5, -⟩ := id hT
  rcases ties_iff hM hT16 c12 r1 c13 r3 a b c with ⟨q1, q2⟩ | ⟨m, x, k, hm, rfl, rfl, hk, q1, q2, q3⟩
  · refine ⟨-1, fun P hp => q1 _ ?_, fun P hp => q2 _ ?_⟩
    · exact ⟨fun _ => hp, fun q => absurd rfl q⟩
    · exact ⟨fun q => absurd rfl q, fun _ => hp⟩
  · have hk2 : k < 420 := by rcases hk with ⟨-, q, rfl⟩ | ⟨-, q, rfl⟩ | ⟨-, q, rfl⟩ <;> omega
    refine ⟨gC.2.2 28 k, fun P hp => q1 _ ⟨fun q => absurd q (by decide), fun _ => q3 _ ⟨vp_in_nI hk2 (by omega), ?_⟩⟩, fun P hp => q2 _ ⟨fun _ => ?_, fun q => absurd q (by decide)⟩⟩
    · rw [tn_nI (by omega)]; exact hp
    · have e16 : (16 : Int32) * nI m + nI x = nI (16 * m + x) := ij (k := 16) (by omega)
      have e10 : (10 : Int32) * nI m + nI x = nI (10 * m + x) := ij (k := 10) (by omega)
      rw [e16, e10]
      rcases hk with ⟨rfl, q, rfl⟩ | ⟨rfl, q, rfl⟩ | ⟨rfl, q, rfl⟩
      · refine ⟨fun z => absurd rfl z, fun _ => ⟨vp_in_nI (by omega) (by omega), ?_⟩⟩
        rw [tn_nI (by omega), ← k1 _ (by omega)]; exact hp
      · refine ⟨fun _ => ⟨fun z => absurd rfl z, fun _ => ⟨vp_in_nI (by omega) (by omega), ?_⟩⟩, fun z => absurd z (by decide)⟩
        rw [tn_nI (by omega), ← k2 _ (by omega)]; exact hp
      · refine ⟨fun _ => ⟨fun _ => ⟨vp_in_nI (by omega) (by omega), ?_⟩, fun z => absurd z (by decide)⟩, fun z => absurd z (by decide)⟩
        rw [tn_nI (by omega), ← k3 _ (by omega)]; exact hp
