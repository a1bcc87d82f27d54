theorem a99 (a : Int32) : a ≤ 99 ↔ ¬ 99 < a := Int32.not_lt.symm
theorem tn_nI {n : Nat} (h : n < 2 ^ 31) : (nI n).toNatClampNeg = n := nI_clamp h
set_option maxRecDepth 4000 in
theorem op_module {B : Nat} {gC : cm_M} {gR : jm_M} (h : b_R B gC gR) (a : Int32) : ∃ (r : Int32) (gR' : jm_M), (∀ P : Int32 → cm_M → Prop, (∀ g, b_R B g gR' → P r g) → vc_X10_module a gC P) ∧ (∀ P : Int32 → jm_M → Prop, P r gR' → vr_module a gR P) := by
  obtain ⟨M, T, N, hT, hX, ht, hH, hW, hP, hA, hI⟩ := id h
  obtain ⟨hM, hT16, hN, c12, r1, c13, r3, c14, r5, e4, e5, e6, e7, e8, e9, e10⟩ := id hT
  by_cases h1 : a < 1
  · refine ⟨-1, gR, fun P hp => ?_, fun P hp => ?_⟩
    · simp only [vc_X10_module, h1, true_implies, not_true_eq_false, false_implies, and_true]; exact hp _ h
    · simp only [vr_module, vr_in_iff, h1, true_or, if_true, not_true_eq_false, false_implies, true_implies, true_and]; exact hp
  by_cases h2 : 99 < a
  · refine ⟨-1, gR, fun P hp => ?_, fun P hp => ?_⟩
    · simp only [vc_X10_module, a99, h1, h2, true_implies, not_true_eq_false, not_false_eq_true, false_implies, and_true, true_and]; exact hp _ h
    · simp only [vr_module, vr_in_iff, h1, h2, or_true, if_true, not_true_eq_false, false_implies, true_implies, true_and]; exact hp
  by_cases h3 : M = 10
  · subst h3
    refine ⟨-3, gR, fun P hp => ?_, fun P hp => ?_⟩
    · simp only [vc_X10_module, a99, h1, h2, c12, true_implies, not_true_eq_false, not_false_eq_true, false_implies, and_true, true_and]
      exact ⟨fun q => absurd q (by decide), fun _ => hp _ h⟩
    · simp only [vr_module, vr_in_iff, h1, h2, r1, or_self, if_false]
      exact ⟨fun _ => ⟨fun q => absurd rfl q, fun _ => hp⟩, fun q => absurd q (by decide)⟩
  have hM' : M < 10 := by omega
  have hin : vp_in (nI M) 10 := vp_in_nI hM' (by omega)
  refine ⟨nI M, jm_s (jm_a gR 2 (nI M) a) 1 (nI (M + 1)), fun P hp => ?_, fun P hp => ?_⟩
  · simp only [vc_X10_module, vc_X9_addModule, a99, h1, h2, true_implies, not_true_eq_false, not_false_eq_true, false_implies, and_true, true_and, forall_eq]
    have e1 : (cm_a gC 4 (gC.2.2 12 0) a).2.2 12 0 = nI M := c12
    rw [e1, c12, nI_1]
    refine ⟨fun _ => ⟨hin, hp _ ?_⟩, fun q => absurd (nI_lt hM' (by omega)) q⟩
    refine ⟨M + 1, T, N, ⟨by omega, hT16, hN, rfl, rfl, c13, r3, c14, r5, ?_, e5, e6, e7, e8, e9, e10⟩, ?_, ht, hH, hW, ?_, hA, hI⟩
    · exact congrArg (fun f => upd f (nI M).toNatClampNeg a) e4
    · obtain ⟨x1, x2, x3, x4, x5⟩ := hX
      refine ⟨fun i hi => ?_, fun i hi => ?_, fun i hi => ?_, x4, x5⟩
      · show ∃ z : Nat, 1 ≤ z ∧ z ≤ 99 ∧ upd (gR 2) (nI M).toNatClampNeg a i = nI z
        rw [tn_nI (by omega)]
        by_cases e : i = M
        · subst e
          have h0 : ¬ a < 0 := fun q => h1 (by rw [Int32.lt_iff_toInt_lt] at q ⊢; have : (0 : Int32).toInt = 0 := by decide
                                               have h1' : (1 : Int32).toInt = 1 := by decide
                                               omega)
          obtain ⟨z, hz, rfl⟩ := nI_of h0
          refine ⟨z, ?_, ?_, pk_us⟩
          · rcases Nat.lt_or_ge z 1 with q | q
            · exact absurd ((nI_ltI hz (by omega)).mpr q) h1
            · exact q
          · rcases Nat.lt_or_ge 99 z with q | q
            · exact absurd ((nI_ltI (by omega) hz).mpr q) h2
            · exact q
        · rw [pk_un e]; exact x1 i (by omega)
      · obtain ⟨z, hz, e⟩ := x2 i hi; exact ⟨z, by omega, e⟩
      · obtain ⟨z, hz, e⟩ := x3 i hi; exact ⟨z, by omega, e⟩
    · exact hP
  · simp only [vr_module, vr_in_iff, h1, h2, r1, or_self, if_false, forall_eq]
    have e1 : (jm_a gR 2 (nI M) a) 1 0 = nI M := r1
    have e2 : (jm_s (jm_a gR 2 (nI M) a) 1 (nI (M + 1))) 1 0 = nI (M + 1) := rfl
    rw [e1, nI_1, e2, nI_pred]
    refine ⟨fun _ => ⟨fun _ => ⟨hin, hp⟩, fun q => absurd ((nI_eq (b := 10) (by omega) (by omega)).mp q) h3⟩, fun q => absurd q (by decide)⟩
/-- an index below n, or none -/
theorem ix_cases (a : Int32) {n : Nat} (hn : n < 2 ^ 31) : (a < 0 ∨ nI n ≤ a) ∨ (∃ i : Nat, i < n ∧ a = nI i ∧ ¬ (a < 0 ∨ nI n ≤ a)) := by
  rcases ni_in (x := a) hn with h | ⟨i, hi, rfl⟩
  · exact Or.inl h
  · refine Or.inr ⟨i, hi, rfl, fun q => ?_⟩
    rcases q with q | q
    · exact nI_pos (by omega) q
    · exact nI_ge hi hn q
set_option maxRecDepth 4000 in
theorem op_table {B : Nat} {gC : cm_M} {gR : jm_M} (h : b_R B gC gR) (a : Int32) : ∃ (r : Int32) (gR' : jm_M), (∀ P : Int32 → cm_M → Prop, (∀ g, b_R B g gR' → P r g) → vc_X10_table a gC P) ∧ (∀ P : Int32 → jm_M → Prop, P r gR' → vr_table a gR P) := by
  obtain ⟨M, T, N, hT, hX, ht, hH, hW, hP, hA, hI⟩ := id h
  obtain ⟨hM, hT16, hN, c12, r1, c13, r3, c14, r5, e4, e5, e6, e7, e8, e9, e10⟩ := id hT
  rcases ix_cases a (n := M) (by omega) with h1 | ⟨i, hi, rfl, h1⟩
  · refine ⟨-1, gR, fun P hp => ?_, fun P hp => ?_⟩
    · simp only [vc_X10_table, vc_hasModule_iff c12, h1, if_true, not_true_eq_false, false_implies, true_implies, true_and]; exact hp _ h
    · simp only [vr_table, vr_isModule_iff hM r1, h1, if_true, not_true_eq_false, false_implies, true_implies, true_and]; exact hp
  by_cases h3 : T = 16
  · subst h3
    refine ⟨-3, gR, fun P hp => ?_, fun P hp => ?_⟩
    · simp only [vc_X10_table, vc_hasModule_iff c12, h1, if_false, c13]
      exact ⟨fun _ => ⟨fun q => absurd q (by decide), fun _ => hp _ h⟩, fun q => absurd q (by decide)⟩
    · simp only [vr_table, vr_isModule_iff hM r1, h1, if_false, r3]
      exact ⟨fun _ => ⟨fun q => absurd rfl q, fun _ => hp⟩, fun q => absurd q (by decide)⟩
  have hT' : T < 16 := by omega
  have hin : vp_in (nI T) 16 := vp_in_nI hT' (by omega)
  refine ⟨nI T, jm_s (jm_a gR 4 (nI T) (nI i)) 3 (nI (T + 1)), fun P hp => ?_, fun P hp => ?_⟩
  · simp only [vc_X10_table, vc_hasModule_iff c12, h1, if_false, vc_X9_addTable, forall_eq]
    have e1 : (cm_a gC 5 (gC.2.2 13 0) (nI i)).2.2 13 0 = nI T := c13
    rw [e1, c13, nI_1]
    refine ⟨fun _ => ⟨fun _ => ⟨hin, hp _ ?_⟩, fun q => absurd (nI_lt hT' (by omega)) q⟩, fun q => absurd q (by decide)⟩
    refine ⟨M, T + 1, N, ⟨hM, by omega, hN, c12, r1, rfl, rfl, c14, r5, e4, ?_, e6, e7, e8, e9, e10⟩, ?_, ht, ?_, ?_, hP, hA, hI⟩
    · exact congrArg (fun f => upd f (nI T).toNatClampNeg (nI i)) e5
    · obtain ⟨x1, x2, x3, x4, x5⟩ := hX
      refine ⟨x1, fun j hj => ?_, x3, fun j hj => ?_, x5⟩
      · show ∃ z : Nat, z < M ∧ upd (gR 4) (nI T).toNatClampNeg (nI i) j = nI z
        rw [tn_nI (by omega)]
        by_cases e : j = T
        · subst e; exact ⟨i, hi, pk_us⟩
        · rw [pk_un e]; exact x2 j (by omega)
      · obtain ⟨z, hz, ez, hl⟩ := x4 j hj
        refine ⟨z, hz, ez, fun k hk => ?_⟩
        rcases hl k hk with q | q | ⟨q, t, k2, q1, q2, q3, q4⟩ | q | q | q
        · exact Or.inl q
        · exact Or.inr (Or.inl q)
        · exact Or.inr (Or.inr (Or.inl ⟨q, t, k2, by omega, q2, q3, q4⟩))
        · exact Or.inr (Or.inr (Or.inr (Or.inl q)))
        · exact Or.inr (Or.inr (Or.inr (Or.inr (Or.inl q))))
        · exact Or.inr (Or.inr (Or.inr (Or.inr (Or.inr q))))
    · obtain ⟨⟨y1, y2, y3⟩, z1, z2, z3, z4, K, e, l1, l2, l3, l4, l5, l6, l7, l8, l9⟩ := hH
      refine ⟨⟨y1, y2, fun j hj => y3 j (by omega)⟩, z1, z2, z3, z4, K, e, l1, l2, l3, l4, l5, l6, l7, fun j hj => ?_, l9⟩
      obtain ⟨k, f, t, q1, q2⟩ := l8 j hj
      exact ⟨k, f, t, by omega, q2⟩
    · obtain ⟨K, w1, w2, w3, w4, w5, w6, w7, w8⟩ := hW
      refine ⟨K, w1, w2, w3, w4, w5, w6, w7, fun j hj => ?_⟩
      obtain ⟨z, q1, q2, q3⟩ := w8 j hj
      exact ⟨z, q1, q2, fun k hk => by obtain ⟨y, q4, q5⟩ := q3 k hk; exact ⟨y, by omega, q5⟩⟩
  · simp only [vr_table, vr_isModule_iff hM r1, h1, if_false, r3, forall_eq]
    have e1 : (jm_a gR 4 (nI T) (nI i)) 3 0 = nI T := r3
    have e2 : (jm_s (jm_a gR 4 (nI T) (nI i)) 3 (nI (T + 1))) 3 0 = nI (T + 1) := rfl
    rw [e1, nI_1, e2, nI_pred]
    exact ⟨fun _ => ⟨fun _ => ⟨hin, hp⟩, fun q => absurd ((nI_eq (b := 16) (by omega) (by omega)).mp q) h3⟩, fun q => absurd q (by decide)⟩
