theorem b_wl_succ (f : Nat → Int32) (i : Nat) : b_wl f (i + 1) = if f i = 1 then b_wl f i ++ [i] else b_wl f i := by
  unfold b_wl
  rw [List.range_succ, List.filter_append]
  by_cases h : f i = 1 <;> simp [h]
theorem b_wl_len (f : Nat → Int32) : ∀ i, (b_wl f i).length ≤ i
  | 0 => Nat.le_refl 0
  | i + 1 => by
    rw [b_wl_succ]
    have := b_wl_len f i
    by_cases h : f i = 1
    · rw [if_pos h, List.length_append]; simp; omega
    · rw [if_neg h]; omega
theorem wn_loop {g : jm_M} {S : Nat} (hS : S ≤ 2000) (e : g 40 0 = nI S) (h01 : ∀ l, l < S → g 45 l = 0 ∨ g 45 l = 1) {P : Int32 → Prop} (hP : P (nI (b_wl (g 45) S).length)) : ∀ k i, i + k = S → vr_waitingNow_4 g P (k + 1) (nI (b_wl (g 45) i).length) (nI i) := by
  intro k
  induction k with
  | zero =>
    intro i hi
    obtain rfl : i = S := by omega
    rw [vr_waitingNow_4, e]
    exact ⟨fun _ => hP, fun q => absurd (nI_le (Nat.le_refl i) (by omega)) q⟩
  | succ k ih =>
    intro i hi
    rw [vr_waitingNow_4, e]
    refine ⟨fun q => absurd q (nI_ge (by omega) (by omega)), fun _ => ⟨vp_in_nI (by omega) (by omega), ?_⟩⟩
    rw [tn_nI (by omega)]
    have ih := ih (i + 1) (by omega)
    rw [b_wl_succ] at ih
    refine ⟨fun q y ey => ?_, fun q y ey => ?_⟩
    · subst ey
      rw [if_neg (by rw [q]; decide)] at ih
      rw [nI_1, Int32.add_zero]
      exact ih
    · subst ey
      rcases h01 i (by omega) with q2 | q2
      · exact absurd q2 q
      · rw [if_pos q2, List.length_append] at ih
        rw [nI_1, nI_1]
        exact ih
theorem vr_waitingNow_of {T : Nat} {n : Nat → Nat} {c r : jm_M} (hL : b_L T n c r) {P : Int32 → Prop} (hP : P (c 41 0)) : vr_waitingNow r P := by
  obtain ⟨S, e, l1, l2, l3, l4, l5, l6, l7, l8, l9, l10, l11⟩ := hL
  rw [l10] at hP
  exact ⟨S + 1, wn_loop l1 l3 (fun l hl => by obtain ⟨k, f, t, q⟩ := l8 l hl; exact q.2.2.2.2.2.2.2.2) hP S 0 (by omega)⟩
set_option maxRecDepth 4000 in
theorem op_law {B : Nat} {gC : cm_M} {gR : jm_M} (h : b_R B gC gR) (a : Int32) : ∃ (r : Int32) (gR' : jm_M), (∀ P : Int32 → cm_M → Prop, (∀ g, b_R B g gR' → P r g) → vc_X10_law a gC P) ∧ (∀ P : Int32 → jm_M → Prop, P r gR' → vr_law a gR P) := by
  obtain ⟨M, T, N, hT, hX, ht, hH, hW, hP, hA, hI⟩ := id h
  obtain ⟨K, w1, w2, w3, w4, w5, w6, w7, w8⟩ := id hW
  by_cases h3 : K = 10
  · subst h3
    refine ⟨-3, gR, fun P hp => ?_, fun P hp => ?_⟩
    · simp only [vc_X10_law, w2]
      exact ⟨fun q => absurd q (by decide), fun _ => hp _ h⟩
    · simp only [vr_law, w3]
      exact ⟨fun q => absurd rfl q, fun _ => hp⟩
  have hK : K < 10 := by omega
  have hin : vp_in (nI K) 10 := vp_in_nI hK (by omega)
  refine ⟨nI K, jm_s (jm_a gR 47 (nI K) a) 46 (nI (K + 1)), fun P hp => ?_, fun P hp => ?_⟩
  · simp only [vc_X10_law, vc_X5_addLaw, forall_eq]
    have e1 : (cm_a gC 56 (gC.2.2 59 0) a).2.2 59 0 = nI K := w2
    rw [e1, w2, nI_1]
    refine ⟨fun _ => ⟨hin, hp _ ?_⟩, fun q => absurd (nI_lt hK (by omega)) q⟩
    exact ⟨M, T, N, hT, hX, ht, hH, ⟨K + 1, by omega, rfl, rfl, congrArg (fun f => upd f (nI K).toNatClampNeg a) w4, w5, w6, w7, w8⟩, hP, hA, hI⟩
  · simp only [vr_law, w3, forall_eq]
    have e1 : (jm_a gR 47 (nI K) a) 46 0 = nI K := w3
    have e2 : (jm_s (jm_a gR 47 (nI K) a) 46 (nI (K + 1))) 46 0 = nI (K + 1) := rfl
    rw [e1, nI_1, e2, nI_pred]
    exact ⟨fun _ => ⟨hin, hp⟩, fun q => absurd ((nI_eq (b := 10) (by omega) (by omega)).mp q) h3⟩
theorem op_put {B : Nat} {gC : cm_M} {gR : jm_M} (h : b_R B gC gR) (a : Int32) : ∃ (r : Int32), (∀ P : Int32 → Prop, P r → vc_X10_put a gC P) ∧ (∀ P : Int32 → Prop, P r → vr_put a gR P) := by
  obtain ⟨M, T, N, hT, hX, ht, hH, hW, ⟨p1, p2, p3, p4, p5, K, k1, k2, k3, k4⟩, hA, hI⟩ := id h
  rcases ix_cases a (n := K) (by omega) with h1 | ⟨i, hi, rfl, h1⟩
  · refine ⟨-1, fun P hp => ?_, fun P hp => ?_⟩
    · simp only [vc_X10_put, k2]
      exact ⟨fun _ => hp, fun q => ⟨fun _ => hp, fun q2 => absurd h1 (not_or.mpr ⟨q, q2⟩)⟩⟩
    · simp only [vr_put]
      rcases k3 with ⟨q1, q2⟩ | ⟨q1, q2⟩
      · exact ⟨fun _ => hp, fun q => absurd q1 q⟩
      · refine ⟨fun _ => hp, fun _ => ?_⟩
        rw [vr_idx (by omega) gR _ q2, if_pos h1]
        exact ⟨fun _ => hp, fun q => absurd rfl q⟩
  · have hK0 : K ≠ 0 := by omega
    rcases k3 with ⟨q1, q2⟩ | ⟨q1, q2⟩
    · exact absurd q2 hK0
    refine ⟨gR 35 i, fun P hp => ?_, fun P hp => ?_⟩
    · rw [not_or] at h1
      simp only [vc_X10_put, k2, h1.1, h1.2, false_implies, true_and, not_false_eq_true, true_implies, tn_nI (show i < 2 ^ 31 by omega), k4 i hi]
      exact ⟨vp_in_nI (by omega) (by omega), hp⟩
    · simp only [vr_put, q1]
      refine ⟨fun q => absurd q (by decide), fun _ => ?_⟩
      rw [vr_idx (by omega) gR _ q2, if_neg h1, tn_nI (by omega)]
      exact ⟨fun q => absurd q (by decide), fun _ => ⟨vp_in_nI (by omega) (by omega), hp⟩⟩
theorem op_unlike {B : Nat} {gC : cm_M} {gR : jm_M} (h : b_R B gC gR) (a : Int32) : ∃ (r : Int32), (∀ P : Int32 → Prop, P r → vc_X10_unlike a gC P) ∧ (∀ P : Int32 → Prop, P r → vr_unlike a gR P) := by
  obtain ⟨M, T, N, hT, hX, ht, ⟨hc, hr, hk, ⟨u1, u2, u3, u4, u5, u6⟩, hs, hl⟩, hW, hP, hA, hI⟩ := id h
  have e45 : a < 5 ↔ ¬ 4 < a := i_lt_lt a 4 5 (by decide)
  by_cases h1 : a < 0 ∨ 4 < a
  · refine ⟨-1, fun P hp => ?_, fun P hp => ?_⟩
    · simp only [vc_X10_unlike, e45]
      exact ⟨fun _ => hp, fun q => ⟨fun q2 => absurd h1 (not_or.mpr ⟨q, q2⟩), fun _ => hp⟩⟩
    · simp only [vr_unlike, vr_in_iff, h1, if_true]
      exact ⟨fun q => (q (by trivial)).elim, fun _ => hp⟩
  obtain ⟨i, hi, rfl⟩ : ∃ i : Nat, i < 5 ∧ a = nI i := ni_le (n := 5) (by omega) (fun q => h1 (Or.inl q)) (fun q => h1 (Or.inr ((i_lt_le a 4 5 (by decide)).mp q)))
  have hin : vp_in (nI i) 5 := vp_in_nI hi (by omega)
  by_cases h2 : gR 58 0 = 0
  · refine ⟨-2, fun P hp => ?_, fun P hp => ?_⟩
    · rw [not_or] at h1
      simp only [vc_X10_unlike, e45, u2, h1.1, h1.2, h2, false_implies, true_and, not_false_eq_true, true_implies, not_true_eq_false, and_true]; exact hp
    · simp only [vr_unlike, vr_in_iff, h1, if_false, h2]
      exact ⟨fun _ => ⟨fun _ => hp, fun q => (q (by trivial)).elim⟩, fun q => absurd q (by decide)⟩
  · refine ⟨gR 59 i, fun P hp => ?_, fun P hp => ?_⟩
    · rw [not_or] at h1
      simp only [vc_X10_unlike, e45, u2, h1.1, h1.2, h2, false_implies, true_and, not_false_eq_true, true_implies, not_true_eq_false, and_true, tn_nI (show i < 2 ^ 31 by omega), u1 i hi]
      exact ⟨hin, hp⟩
    · simp only [vr_unlike, vr_in_iff, h1, if_false, h2, tn_nI (show i < 2 ^ 31 by omega)]
      exact ⟨fun _ => ⟨fun q => q.elim, fun _ => ⟨hin, hp⟩⟩, fun q => absurd q (by decide)⟩
theorem op_count {B : Nat} {gC : cm_M} {gR : jm_M} (h : b_R B gC gR) (a : Int32) : ∃ (r : Int32), (∀ P : Int32 → Prop, P r → vc_X10_count a gC P) ∧ (∀ P : Int32 → Prop, P r → vr_count a gR P) := by
  obtain ⟨M, T, N, hT, hX, ht, ⟨hc, hr, hk, ⟨u1, u2, u3, u4, u5, u6⟩, hs, hl⟩, hW, hP, hA, hI⟩ := id h
  obtain ⟨hM, hT16, hN, c12, r1, c13, r3, c14, r5, -⟩ := id hT
  obtain ⟨K, w1, w2, w3, -⟩ := id hW
  obtain ⟨S, e, l1, l2, l3, -⟩ := id hl
  by_cases hd : a.toInt < 0 ∨ 8 < a.toInt
  · have ne : ∀ k : Int32, ¬ (k.toInt < 0 ∨ 8 < k.toInt) → a ≠ k := fun k q e => q (e ▸ hd)
    refine ⟨-1, fun P hp => ?_, fun P hp => ?_⟩
    · exact ⟨fun _ => hp, fun q => absurd q (ne 0 (by decide)), fun q => absurd q (ne 1 (by decide)), fun q => absurd q (ne 2 (by decide)), fun q => absurd q (ne 3 (by decide)), fun q => absurd q (ne 4 (by decide)), fun q => absurd q (ne 5 (by decide)), fun q => absurd q (ne 6 (by decide)), fun q => absurd q (ne 7 (by decide)), fun q => absurd q (ne 8 (by decide))⟩
    · exact ⟨fun _ => hp, fun q => absurd q (ne 0 (by decide)), fun q => absurd q (ne 1 (by decide)), fun q => absurd q (ne 2 (by decide)), fun q => absurd q (ne 3 (by decide)), fun q => absurd q (ne 4 (by decide)), fun q => absurd q (ne 5 (by decide)), fun q => absurd q (ne 6 (by decide)), fun q => absurd q (ne 7 (by decide)), fun q => absurd q (ne 8 (by decide))⟩
  · rcases jj_sw_0_8 a hd with rfl | rfl | rfl | rfl | rfl | rfl | rfl | rfl | rfl
    · refine ⟨nI M, fun P hp => ?_, fun P hp => ?_⟩
      · simp only [vc_X10_count, c12]; refine ⟨fun q => absurd q hd, fun _ => hp, ?_⟩; simp
      · simp only [vr_count, r1]; refine ⟨fun q => absurd q hd, fun _ => hp, ?_⟩; simp
    · refine ⟨nI T, fun P hp => ?_, fun P hp => ?_⟩
      · simp only [vc_X10_count, c13]; refine ⟨fun q => absurd q hd, by simp, fun _ => hp, ?_⟩; simp
      · simp only [vr_count, r3]; refine ⟨fun q => absurd q hd, by simp, fun _ => hp, ?_⟩; simp
    · refine ⟨nI N, fun P hp => ?_, fun P hp => ?_⟩
      · simp only [vc_X10_count, c14]; refine ⟨fun q => absurd q hd, by simp, by simp, fun _ => hp, ?_⟩; simp
      · simp only [vr_count, r5]; refine ⟨fun q => absurd q hd, by simp, by simp, fun _ => hp, ?_⟩; simp
    · refine ⟨nI K, fun P hp => ?_, fun P hp => ?_⟩
      · simp only [vc_X10_count, w2]; refine ⟨fun q => absurd q hd, by simp, by simp, by simp, fun _ => hp, ?_⟩; simp
      · simp only [vr_count, w3]; refine ⟨fun q => absurd q hd, by simp, by simp, by simp, fun _ => hp, ?_⟩; simp
    · refine ⟨gR 28 0, fun P hp => ?_, fun P hp => ?_⟩
      · simp only [vc_X10_count, u4]; refine ⟨fun q => absurd q hd, by simp, by simp, by simp, by simp, fun _ => hp, ?_⟩; simp
      · simp only [vr_count]; refine ⟨fun q => absurd q hd, by simp, by simp, by simp, by simp, fun _ => hp, ?_⟩; simp
    · refine ⟨gR 29 0, fun P hp => ?_, fun P hp => ?_⟩
      · simp only [vc_X10_count, u5]; refine ⟨fun q => absurd q hd, by simp, by simp, by simp, by simp, by simp, fun _ => hp, ?_⟩; simp
      · simp only [vr_count]; refine ⟨fun q => absurd q hd, by simp, by simp, by simp, by simp, by simp, fun _ => hp, ?_⟩; simp
    · refine ⟨nI S, fun P hp => ?_, fun P hp => ?_⟩
      · simp only [vc_X10_count, l2]; refine ⟨fun q => absurd q hd, by simp, by simp, by simp, by simp, by simp, by simp, fun _ => hp, ?_⟩; simp
      · simp only [vr_count, l3]; refine ⟨fun q => absurd q hd, by simp, by simp, by simp, by simp, by simp, by simp, fun _ => hp, ?_⟩; simp
    · refine ⟨gC.2.2 41 0, fun P hp => ?_, fun P hp => ?_⟩
      · simp only [vc_X10_count]; refine ⟨fun q => absurd q hd, by simp, by simp, by simp, by simp, by simp, by simp, by simp, fun _ => hp, ?_⟩; simp
      · simp only [vr_count]; refine ⟨fun q => absurd q hd, by simp, by simp, by simp, by simp, by simp, by simp, by simp, fun _ => vr_waitingNow_of hl hp, ?_⟩; simp
    · refine ⟨gR 57 0, fun P hp => ?_, fun P hp => ?_⟩
      · simp only [vc_X10_count, u6]; refine ⟨fun q => absurd q hd, by simp, by simp, by simp, by simp, by simp, by simp, by simp, by simp, fun _ => hp⟩
      · simp only [vr_count]; refine ⟨fun q => absurd q hd, by simp, by simp, by simp, by simp, by simp, by simp, by simp, by simp, fun _ => hp⟩
