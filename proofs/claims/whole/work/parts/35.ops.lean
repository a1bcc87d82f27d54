/-! lines, and the ties of the text -/
theorem lt0_1 {x : Int32} (h : x < 0) : x < 1 := by
  rw [Int32.lt_iff_toInt_lt] at h ⊢
  have h0 : (0 : Int32).toInt = 0 := by decide
  have h1 : (1 : Int32).toInt = 1 := by decide
  omega
set_option maxRecDepth 8000 in
theorem isLine_iff {T N : Nat} {gC : cm_M} {gR : jm_M} (hT16 : T ≤ 16) (hN : N ≤ 40) (c13 : gC.2.2 13 0 = nI T) (r3 : gR 3 0 = nI T) (c14 : gC.2.2 14 0 = nI N) (r5 : gR 5 0 = nI N) (o x y : Int32) : ((∀ P : Int32 → Prop, P 0 → vc_X9_isLine o x y gC P) ∧ (∀ P : Int32 → Prop, P 0 → vr_isLine o x y gR P)) ∨ (b_line T N o x y ∧ (∀ P : Int32 → Prop, P 1 → vc_X9_isLine o x y gC P) ∧ (∀ P : Int32 → Prop, P 1 → vr_isLine o x y gR P)) := by
  have cellcase : ((x < 0 ∨ nI T ≤ x) ∨ (y < 0 ∨ 7 < y)) ∨ (¬ (x < 0 ∨ nI T ≤ x) ∧ ¬ (y < 0 ∨ 7 < y) ∧ ∃ t k : Nat, t < T ∧ k < 8 ∧ x = nI t ∧ y = nI k) := by
    rcases ix_cases x (n := T) (by omega) with h | ⟨t, ht, e, h⟩
    · exact Or.inl (Or.inl h)
    · by_cases h2 : y < 0 ∨ 7 < y
      · exact Or.inl (Or.inr h2)
      · obtain ⟨k, hk, e2⟩ : ∃ i : Nat, i < 8 ∧ y = nI i := ni_le (n := 8) (by omega) (fun q => h2 (Or.inl q)) (fun q => h2 (Or.inr ((i_lt_le y 7 8 (by decide)).mp q)))
        exact Or.inr ⟨h, h2, t, k, ht, hk, e, e2⟩
  by_cases hd : o.toInt < 0 ∨ 8 < o.toInt
  · left
    have ne : ∀ k : Int32, ¬ (k.toInt < 0 ∨ 8 < k.toInt) → o ≠ k := fun k q e => q (e ▸ hd)
    refine ⟨fun P hp => ?_, fun P hp => ?_⟩
    · exact ⟨fun _ => hp, fun q => absurd q (ne 0 (by decide)), fun q => absurd q (ne 1 (by decide)), fun q => absurd q (ne 2 (by decide)), fun q => absurd q (ne 3 (by decide)), fun q => absurd q (ne 4 (by decide)), fun q => absurd q (ne 5 (by decide)), fun q => absurd q (ne 6 (by decide)), fun q => absurd q (ne 7 (by decide)), fun q => absurd q (ne 8 (by decide))⟩
    · exact ⟨fun _ => hp, fun q => absurd q (ne 0 (by decide)), fun q => absurd q (ne 1 (by decide)), fun q => absurd q (ne 2 (by decide)), fun q => absurd q (ne 3 (by decide)), fun q => absurd q (ne 4 (by decide)), fun q => absurd q (ne 5 (by decide)), fun q => absurd q (ne 6 (by decide)), fun q => absurd q (ne 7 (by decide)), fun q => absurd q (ne 8 (by decide))⟩
  have cell : ∀ k : Int32, (k = 2 ∨ k = 3 ∨ k = 7 ∨ k = 8) → ((∀ P : Int32 → Prop, P 0 → vc_X9_isLine k x y gC P) ∧ (∀ P : Int32 → Prop, P 0 → vr_isLine k x y gR P)) ∨ (b_line T N k x y ∧ (∀ P : Int32 → Prop, P 1 → vc_X9_isLine k x y gC P) ∧ (∀ P : Int32 → Prop, P 1 → vr_isLine k x y gR P)) := by
    intro k hk
    rcases cellcase with h | ⟨h1, h2, t, k2, ht, hk2, ex, ey⟩
    · left
      rcases hk with rfl | rfl | rfl | rfl <;> refine ⟨fun P hp => ?_, fun P hp => ?_⟩ <;> (rcases h with h | h) <;> simp [vc_X9_isLine, vr_isLine, vc_hasCell_iff c13, vr_isTable_iff hT16 r3, vc_hasRoutine_iff c14, vr_isRoutine_iff hN r5, vr_in_iff, h, hp, jj_nb0]
    · right
      refine ⟨Or.inr (Or.inr (Or.inl ⟨hk, t, k2, ht, hk2, ex, ey⟩)), ?_⟩
      rcases hk with rfl | rfl | rfl | rfl <;> refine ⟨fun P hp => ?_, fun P hp => ?_⟩ <;> simp [vc_X9_isLine, vr_isLine, vc_hasCell_iff c13, vr_isTable_iff hT16 r3, vc_hasRoutine_iff c14, vr_isRoutine_iff hN r5, vr_in_iff, h1, h2, hp, jj_nb1]
  rcases jj_sw_0_8 o hd with rfl | rfl | rfl | rfl | rfl | rfl | rfl | rfl | rfl
  · by_cases h1 : x < -999
    · left; refine ⟨fun P hp => ?_, fun P hp => ?_⟩ <;> simp [vc_X9_isLine, vr_isLine, vc_hasCell_iff c13, vr_isTable_iff hT16 r3, vc_hasRoutine_iff c14, vr_isRoutine_iff hN r5, vr_in_iff, h1, hp, jj_nb0]
    · by_cases h2 : 999 < x
      · left; refine ⟨fun P hp => ?_, fun P hp => ?_⟩ <;> simp [vc_X9_isLine, vr_isLine, vc_hasCell_iff c13, vr_isTable_iff hT16 r3, vc_hasRoutine_iff c14, vr_isRoutine_iff hN r5, vr_in_iff, h1, h2, hp, jj_nb0]
      · by_cases h3 : y = 0
        · right; refine ⟨Or.inl rfl, fun P hp => ?_, fun P hp => ?_⟩ <;> simp [vc_X9_isLine, vr_isLine, vc_hasCell_iff c13, vr_isTable_iff hT16 r3, vc_hasRoutine_iff c14, vr_isRoutine_iff hN r5, vr_in_iff, h1, h2, h3, hp, jj_nb1]
        · left; refine ⟨fun P hp => ?_, fun P hp => ?_⟩ <;> simp [vc_X9_isLine, vr_isLine, vc_hasCell_iff c13, vr_isTable_iff hT16 r3, vc_hasRoutine_iff c14, vr_isRoutine_iff hN r5, vr_in_iff, h1, h2, h3, hp, jj_nb0]
  · by_cases h1 : x < -999
    · left; refine ⟨fun P hp => ?_, fun P hp => ?_⟩ <;> simp [vc_X9_isLine, vr_isLine, vc_hasCell_iff c13, vr_isTable_iff hT16 r3, vc_hasRoutine_iff c14, vr_isRoutine_iff hN r5, vr_in_iff, h1, hp, jj_nb0]
    · by_cases h2 : 999 < x
      · left; refine ⟨fun P hp => ?_, fun P hp => ?_⟩ <;> simp [vc_X9_isLine, vr_isLine, vc_hasCell_iff c13, vr_isTable_iff hT16 r3, vc_hasRoutine_iff c14, vr_isRoutine_iff hN r5, vr_in_iff, h1, h2, hp, jj_nb0]
      · by_cases h3 : y = 0
        · right; refine ⟨Or.inr (Or.inl rfl), fun P hp => ?_, fun P hp => ?_⟩ <;> simp [vc_X9_isLine, vr_isLine, vc_hasCell_iff c13, vr_isTable_iff hT16 r3, vc_hasRoutine_iff c14, vr_isRoutine_iff hN r5, vr_in_iff, h1, h2, h3, hp, jj_nb1]
        · left; refine ⟨fun P hp => ?_, fun P hp => ?_⟩ <;> simp [vc_X9_isLine, vr_isLine, vc_hasCell_iff c13, vr_isTable_iff hT16 r3, vc_hasRoutine_iff c14, vr_isRoutine_iff hN r5, vr_in_iff, h1, h2, h3, hp, jj_nb0]
  · exact cell 2 (by simp)
  · exact cell 3 (by simp)
  · rcases ix_cases x (n := N) (by omega) with h1 | ⟨q, hq, e, h1⟩
    · left; refine ⟨fun P hp => ?_, fun P hp => ?_⟩ <;> simp [vc_X9_isLine, vr_isLine, vc_hasCell_iff c13, vr_isTable_iff hT16 r3, vc_hasRoutine_iff c14, vr_isRoutine_iff hN r5, vr_in_iff, h1, hp, jj_nb0]
    · by_cases h2 : y = 0
      · right; refine ⟨Or.inr (Or.inr (Or.inr (Or.inl ⟨rfl, q, hq, e⟩))), fun P hp => ?_, fun P hp => ?_⟩ <;> simp [vc_X9_isLine, vr_isLine, vc_hasCell_iff c13, vr_isTable_iff hT16 r3, vc_hasRoutine_iff c14, vr_isRoutine_iff hN r5, vr_in_iff, h1, h2, hp, jj_nb1]
      · left; refine ⟨fun P hp => ?_, fun P hp => ?_⟩ <;> simp [vc_X9_isLine, vr_isLine, vc_hasCell_iff c13, vr_isTable_iff hT16 r3, vc_hasRoutine_iff c14, vr_isRoutine_iff hN r5, vr_in_iff, h1, h2, hp, jj_nb0]
  · have e16 : (16 : Int32) ≤ x ↔ 15 < x := i_lt_le x 15 16 (by decide)
    by_cases h1 : x < 1
    · left; refine ⟨fun P hp => ?_, fun P hp => ?_⟩ <;> simp [vc_X9_isLine, vr_isLine, vc_hasCell_iff c13, vr_isTable_iff hT16 r3, vc_hasRoutine_iff c14, vr_isRoutine_iff hN r5, vr_in_iff, h1, hp, jj_nb0]
    · by_cases h2 : 15 < x
      · left; refine ⟨fun P hp => ?_, fun P hp => ?_⟩ <;> simp [vc_X9_isLine, vr_isLine, vc_hasCell_iff c13, vr_isTable_iff hT16 r3, vc_hasRoutine_iff c14, vr_isRoutine_iff hN r5, vr_in_iff, h1, h2, e16, hp, jj_nb0]
      · obtain ⟨z, hz, e⟩ := ni_le (n := 16) (by omega) (fun q => h1 (lt0_1 q)) (fun q => h2 (e16.mp q))
        have hz1 : 1 ≤ z := by
          rcases Nat.lt_or_ge z 1 with q | q
          · exact absurd (e ▸ (nI_ltI (b := 1) (by omega) (by omega)).mpr q) h1
          · exact q
        by_cases h3 : y = 0
        · right; refine ⟨Or.inr (Or.inr (Or.inr (Or.inr (Or.inl ⟨rfl, z, hz1, by omega, e⟩)))), fun P hp => ?_, fun P hp => ?_⟩ <;> simp [vc_X9_isLine, vr_isLine, vc_hasCell_iff c13, vr_isTable_iff hT16 r3, vc_hasRoutine_iff c14, vr_isRoutine_iff hN r5, vr_in_iff, h1, h2, h3, e16, hp, jj_nb1]
        · left; refine ⟨fun P hp => ?_, fun P hp => ?_⟩ <;> simp [vc_X9_isLine, vr_isLine, vc_hasCell_iff c13, vr_isTable_iff hT16 r3, vc_hasRoutine_iff c14, vr_isRoutine_iff hN r5, vr_in_iff, h1, h2, h3, e16, hp, jj_nb0]
  · by_cases h1 : x = 0
    · by_cases h2 : y = 0
      · right; refine ⟨Or.inr (Or.inr (Or.inr (Or.inr (Or.inr rfl)))), fun P hp => ?_, fun P hp => ?_⟩ <;> simp [vc_X9_isLine, vr_isLine, vc_hasCell_iff c13, vr_isTable_iff hT16 r3, vc_hasRoutine_iff c14, vr_isRoutine_iff hN r5, vr_in_iff, h1, h2, hp, jj_nb1]
      · left; refine ⟨fun P hp => ?_, fun P hp => ?_⟩ <;> simp [vc_X9_isLine, vr_isLine, vc_hasCell_iff c13, vr_isTable_iff hT16 r3, vc_hasRoutine_iff c14, vr_isRoutine_iff hN r5, vr_in_iff, h1, h2, hp, jj_nb0]
    · left; refine ⟨fun P hp => ?_, fun P hp => ?_⟩ <;> simp [vc_X9_isLine, vr_isLine, vc_hasCell_iff c13, vr_isTable_iff hT16 r3, vc_hasRoutine_iff c14, vr_isRoutine_iff hN r5, vr_in_iff, h1, hp, jj_nb0]
  · exact cell 7 (by simp)
  · exact cell 8 (by simp)
