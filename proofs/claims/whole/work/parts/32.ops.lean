/-- the count asks of the owners only those below N -/
theorem b_cnt1_w {w w2 o x : Nat → Int32} {T N i p : Nat} {y : Nat → Int32} (hi : i < N) (hw : ∀ j, j < N → w2 j = w j) (hN : N ≤ 40) : ∀ z, (∀ j, j < z → b_line T N (o (16 * i + j)) (x (16 * i + j)) (y (16 * i + j))) → b_cnt1 w2 o x i p z = b_cnt1 w o x i p z
  | 0, _ => rfl
  | z + 1, hl => by
    rw [b_cnt1, b_cnt1, b_cnt1_w hi hw hN z (fun j hj => hl j (by omega)), hw i hi]
    have e : b_tie (o (16 * i + z)) (w i).toNatClampNeg (x (16 * i + z)).toNatClampNeg (w2 (x (16 * i + z)).toNatClampNeg).toNatClampNeg = b_tie (o (16 * i + z)) (w i).toNatClampNeg (x (16 * i + z)).toNatClampNeg (w (x (16 * i + z)).toNatClampNeg).toNatClampNeg := by
      unfold b_tie
      by_cases h4 : o (16 * i + z) = 4
      · simp only [h4, if_true]
        rcases hl z (by omega) with q | q | ⟨q, -⟩ | ⟨q, k, hk, e⟩ | ⟨q, -⟩ | q
        · rw [h4] at q; exact absurd q (by decide)
        · rw [h4] at q; exact absurd q (by decide)
        · rw [h4] at q; rcases q with q | q | q | q <;> exact absurd q (by decide)
        · rw [e, tn_nI (by omega), hw k hk]
        · rw [h4] at q; exact absurd q (by decide)
        · rw [h4] at q; exact absurd q (by decide)
      · simp only [h4, if_false]
    rw [e]
theorem b_cnt_w {M T N : Nat} {r : jm_M} (hX : b_X M T N r) (hN : N ≤ 40) {w2 : Nat → Int32} (hw : ∀ j, j < N → w2 j = r 6 j) (p : Nat) : ∀ n, n ≤ N → b_cnt w2 (r 7) (r 8) (r 9) p n = b_cnt (r 6) (r 7) (r 8) (r 9) p n
  | 0, _ => rfl
  | n + 1, hn => by
    rw [b_cnt, b_cnt, b_cnt_w hX hN hw p n (by omega)]
    obtain ⟨z, hz, ez, hl⟩ := hX.2.2.2.1 n (by omega)
    rw [ez, tn_nI (by omega), b_cnt1_w (T := T) (N := N) (by omega) hw hN z hl]
theorem b_line_mono {T N T2 N2 : Nat} {o x y : Int32} (h : b_line T N o x y) (hT : T ≤ T2) (hN : N ≤ N2) : b_line T2 N2 o x y := by
  rcases h with q | q | ⟨q, t, k2, q1, q2, q3, q4⟩ | ⟨q, k, q1, q2⟩ | q | q
  · exact Or.inl q
  · exact Or.inr (Or.inl q)
  · exact Or.inr (Or.inr (Or.inl ⟨q, t, k2, by omega, q2, q3, q4⟩))
  · exact Or.inr (Or.inr (Or.inr (Or.inl ⟨q, k, by omega, q2⟩)))
  · exact Or.inr (Or.inr (Or.inr (Or.inr (Or.inl q))))
  · exact Or.inr (Or.inr (Or.inr (Or.inr (Or.inr q))))
set_option maxRecDepth 4000 in
theorem op_routine {B : Nat} {gC : cm_M} {gR : jm_M} (h : b_R B gC gR) (a : Int32) : ∃ (r : Int32) (gR' : jm_M), (∀ P : Int32 → cm_M → Prop, (∀ g, b_R B g gR' → P r g) → vc_X10_routine a gC P) ∧ (∀ P : Int32 → jm_M → Prop, P r gR' → vr_routine a gR P) := by
  obtain ⟨M, T, N, hT, hX, ht, hH, hW, hP, hA, hI⟩ := id h
  obtain ⟨hM, hT16, hN, c12, r1, c13, r3, c14, r5, e4, e5, e6, e7, e8, e9, e10⟩ := id hT
  rcases ix_cases a (n := M) (by omega) with h1 | ⟨i, hi, rfl, h1⟩
  · refine ⟨-1, gR, fun P hp => ?_, fun P hp => ?_⟩
    · simp only [vc_X10_routine, vc_hasModule_iff c12, h1, if_true, not_true_eq_false, false_implies, true_implies, true_and]; exact hp _ h
    · simp only [vr_routine, vr_isModule_iff hM r1, h1, if_true, not_true_eq_false, false_implies, true_implies, true_and]; exact hp
  by_cases h3 : N = 40
  · subst h3
    refine ⟨-3, gR, fun P hp => ?_, fun P hp => ?_⟩
    · simp only [vc_X10_routine, vc_hasModule_iff c12, h1, if_false, c14]
      exact ⟨fun _ => ⟨fun q => absurd q (by decide), fun _ => hp _ h⟩, fun q => absurd q (by decide)⟩
    · simp only [vr_routine, vr_isModule_iff hM r1, h1, if_false, r5]
      exact ⟨fun _ => ⟨fun q => absurd rfl q, fun _ => hp⟩, fun q => absurd q (by decide)⟩
  have hN' : N < 40 := by omega
  have hin : vp_in (nI N) 40 := vp_in_nI hN' (by omega)
  refine ⟨nI N, jm_s (jm_a gR 6 (nI N) (nI i)) 5 (nI (N + 1)), fun P hp => ?_, fun P hp => ?_⟩
  · simp only [vc_X10_routine, vc_hasModule_iff c12, h1, if_false, vc_X9_addRoutine, forall_eq]
    have e1 : (cm_a gC 6 (gC.2.2 14 0) (nI i)).2.2 14 0 = nI N := c14
    rw [e1, c14, nI_1]
    refine ⟨fun _ => ⟨fun _ => ⟨hin, hp _ ?_⟩, fun q => absurd (nI_lt hN' (by omega)) q⟩, fun q => absurd q (by decide)⟩
    refine ⟨M, T, N + 1, ⟨hM, hT16, by omega, c12, r1, c13, r3, rfl, rfl, e4, e5, ?_, e7, e8, e9, e10⟩, ?_, ?_, hH, hW, hP, hA, hI⟩
    · exact congrArg (fun f => upd f (nI N).toNatClampNeg (nI i)) e6
    · obtain ⟨x1, x2, x3, x4, x5⟩ := hX
      refine ⟨x1, x2, fun j hj => ?_, fun j hj => ?_, fun j hj => x5 j (by omega)⟩
      · show ∃ z : Nat, z < M ∧ upd (gR 6) (nI N).toNatClampNeg (nI i) j = nI z
        rw [tn_nI (by omega)]
        by_cases e : j = N
        · subst e; exact ⟨i, hi, pk_us⟩
        · rw [pk_un e]; exact x3 j (by omega)
      · by_cases e : j = N
        · subst e
          exact ⟨0, by omega, x5 j (Nat.le_refl j) hN', fun k hk => absurd hk (Nat.not_lt_zero k)⟩
        · obtain ⟨z, hz, ez, hl⟩ := x4 j (by omega)
          exact ⟨z, hz, ez, fun k hk => b_line_mono (hl k hk) (Nat.le_refl T) (by omega)⟩
    · intro p hp
      show gC.2.2 11 p = nI (b_cnt (upd (gR 6) (nI N).toNatClampNeg (nI i)) (gR 7) (gR 8) (gR 9) p (N + 1))
      rw [ht p hp, tn_nI (by omega), b_cnt, hX.2.2.2.2 N (Nat.le_refl N) hN', b_cnt_w hX hN (fun j hj => pk_un (by omega)) p N (Nat.le_refl N)]
      rfl
  · simp only [vr_routine, vr_isModule_iff hM r1, h1, if_false, r5, forall_eq]
    have e1 : (jm_a gR 6 (nI N) (nI i)) 5 0 = nI N := r5
    have e2 : (jm_s (jm_a gR 6 (nI N) (nI i)) 5 (nI (N + 1))) 5 0 = nI (N + 1) := rfl
    rw [e1, nI_1, e2, nI_pred]
    exact ⟨fun _ => ⟨fun _ => ⟨hin, hp⟩, fun q => absurd ((nI_eq (b := 40) (by omega) (by omega)).mp q) h3⟩, fun q => absurd q (by decide)⟩
/-- two bounds by numbers -/
theorem i_lt_le (a b c : Int32) (h : b.toInt + 1 = c.toInt) : c ≤ a ↔ b < a := by
  rw [Int32.le_iff_toInt_le, Int32.lt_iff_toInt_lt]; omega
theorem i_lt_lt (a b c : Int32) (h : b.toInt + 1 = c.toInt) : a < c ↔ ¬ b < a := by
  rw [Int32.lt_iff_toInt_lt, Int32.lt_iff_toInt_lt]; omega
set_option maxRecDepth 4000 in
theorem op_weight {B : Nat} {gC : cm_M} {gR : jm_M} (h : b_R B gC gR) (a b : Int32) : ∃ (r : Int32) (gR' : jm_M), (∀ P : Int32 → cm_M → Prop, (∀ g, b_R B g gR' → P r g) → vc_X10_weight a b gC P) ∧ (∀ P : Int32 → jm_M → Prop, P r gR' → vr_weight a b gR P) := by
  obtain ⟨M, T, N, hT, hX, ht, hH, hW, hP, hA, hI⟩ := id h
  have e34 : (4 : Int32) ≤ a ↔ 3 < a := i_lt_le a 3 4 (by decide)
  by_cases h1 : a < 0 ∨ 3 < a
  · refine ⟨-1, gR, fun P hp => ?_, fun P hp => ?_⟩
    · simp only [vc_X10_weight, e34]
      rcases h1 with h1 | h1
      · simp only [h1, true_implies, not_true_eq_false, false_implies, and_true]; exact hp _ h
      · exact ⟨fun _ => hp _ h, fun _ => ⟨fun _ => hp _ h, fun q => absurd h1 q⟩⟩
    · simp only [vr_weight, vr_in_iff, h1, if_true, true_implies, not_true_eq_false, false_implies, and_true]; exact hp
  by_cases h2 : b < 0 ∨ 99 < b
  · refine ⟨-1, gR, fun P hp => ?_, fun P hp => ?_⟩
    · simp only [vc_X10_weight, e34, a99]
      refine ⟨fun _ => hp _ h, fun _ => ⟨fun _ => hp _ h, fun _ => ⟨fun _ => hp _ h, fun q => ⟨fun q2 => absurd h2 (not_or.mpr ⟨q, q2⟩), fun _ => hp _ h⟩⟩⟩⟩
    · simp only [vr_weight, vr_in_iff, h1, h2, if_true, if_false, true_implies, not_true_eq_false, false_implies, and_true]
      exact ⟨fun q => absurd q (by decide), fun _ => ⟨trivial, hp⟩⟩
  obtain ⟨i, hi, rfl⟩ : ∃ i : Nat, i < 4 ∧ a = nI i := ni_le (n := 4) (by omega) (fun q => h1 (Or.inl q)) (fun q => h1 (Or.inr (e34.mp q)))
  obtain ⟨z, hz, rfl⟩ : ∃ z : Nat, z < 100 ∧ b = nI z := ni_le (n := 100) (by omega) (fun q => h2 (Or.inl q)) (fun q => h2 (Or.inr ((i_lt_le b 99 100 (by decide)).mp q)))
  have hin : vp_in (nI i) 4 := vp_in_nI hi (by omega)
  obtain ⟨p1, p2, p3⟩ := id hP
  refine ⟨gR 31 i, jm_a gR 31 (nI i) (nI z), fun P hp => ?_, fun P hp => ?_⟩
  · rw [not_or] at h1 h2
    simp only [vc_X10_weight, e34, a99, h1.1, h1.2, h2.1, h2.2, false_implies, true_and, not_false_eq_true, true_implies, forall_eq, not_true_eq_false, and_true, tn_nI (show i < 2 ^ 31 by omega), p1 i hi]
    refine ⟨hin, hin, hp _ ?_⟩
    refine ⟨M, T, N, hT, hX, ht, hH, hW, ?_, hA, hI⟩
    refine ⟨fun j hj => ?_, fun j hj => ?_, p3⟩
    · show upd (gC.2.2 2) (nI i).toNatClampNeg (nI z) j = upd (gR 31) (nI i).toNatClampNeg (nI z) j
      rw [tn_nI (by omega)]
      by_cases e : j = i
      · subst e; rw [pk_us, pk_us]
      · rw [pk_un e, pk_un e]; exact p1 j hj
    · show ∃ y : Nat, y ≤ 99 ∧ upd (gR 31) (nI i).toNatClampNeg (nI z) j = nI y
      rw [tn_nI (by omega)]
      by_cases e : j = i
      · subst e; exact ⟨z, by omega, pk_us⟩
      · rw [pk_un e]; exact p2 j hj
  · simp only [vr_weight, vr_in_iff, h1, h2, if_false, forall_eq, tn_nI (show i < 2 ^ 31 by omega)]
    exact ⟨fun q => absurd q (by decide), fun _ => ⟨fun _ => ⟨hin, hin, hp⟩, fun q => absurd q (by decide)⟩⟩
