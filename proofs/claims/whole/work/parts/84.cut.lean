def b_simL (B : Nat) (vc : (Int64 → cm_M → Prop) → Prop) (vr : (Int64 → jm_M → Prop) → Prop) : Prop := ∀ P : Int64 → cm_M → Prop, (∀ x g, (∀ P2 : Int64 → jm_M → Prop, (∀ g2, b_R B g g2 → P2 x g2) → vr P2) → P x g) → vc P
theorem rng (a : Int32) {lo hi : Nat} (h1 : ¬ a < nI lo) (h2 : ¬ nI hi < a) (hlo : lo < 2 ^ 31) (hhi : hi < 2 ^ 31) : ∃ n : Nat, lo ≤ n ∧ n ≤ hi ∧ a = nI n := by
  have h0 : ¬ a < 0 := fun q => h1 (by
    rw [Int32.lt_iff_toInt_lt] at q ⊢
    have e0 : (0 : Int32).toInt = 0 := by decide
    rw [nI_toInt hlo]; omega)
  obtain ⟨n, hn, rfl⟩ := nI_of h0
  refine ⟨n, ?_, ?_, rfl⟩
  · rcases Nat.lt_or_ge n lo with q | q
    · exact absurd (nI_lt q hlo) h1
    · exact q
  · rcases Nat.lt_or_ge hi n with q | q
    · exact absurd (nI_lt q hn) h2
    · exact q
theorem op_cut {B : Nat} {gC : cm_M} {gR : jm_M} (h : b_R B gC gR) (hB : B ≤ 512) (a b : Int32) : b_simL B (vc_X10_cut a b gC) (vr_cut a b gR) := by
  obtain ⟨M, T, N, hh⟩ := id h
  obtain ⟨gd, gj, c⟩ := gC
  obtain ⟨hT, hX, ht, hH, hW, hP, hA, hI⟩ := id hh
  obtain ⟨hM, hT16, hN, c12, r1, c13, r3, c14, r5, e4, e5, e6, e7, e8, e9, e10⟩ := id hT
  have hq := q_ok_of hB hT hX hH hP
  have hcc := q_cc_of hT hH hP
  intro P hp
  have ref1 : a < 1 ∨ 6 < a → ∀ P2 : Int64 → jm_M → Prop, P2 (-1) gR → vr_cut a b gR P2 := fun w P2 hp2 => by
    unfold vr_cut
    rw [vr_in_iff, if_pos w]
    exact ⟨fun _ => hp2, fun q => absurd rfl q⟩
  have ref2 : ¬ (a < 1 ∨ 6 < a) → (b < 1 ∨ 9999 < b) → ∀ P2 : Int64 → jm_M → Prop, P2 (-1) gR → vr_cut a b gR P2 := fun w w2 P2 hp2 => by
    unfold vr_cut
    rw [vr_in_iff, if_neg w]
    refine ⟨fun q => absurd q (by decide), fun _ => ?_⟩
    rw [vr_in_iff, if_pos w2]
    exact ⟨fun q => absurd rfl q, fun _ => hp2⟩
  have nle : ∀ x : Int32, x ≤ 9999 ↔ ¬ 9999 < x := fun x => Int32.not_lt.symm
  unfold vc_X10_cut
  rw [nle]
  refine ⟨fun q => hp _ _ (fun P2 hp2 => ref1 (Or.inl q) P2 (hp2 _ h)), fun q1 => ⟨fun q => hp _ _ (fun P2 hp2 => ref1 (Or.inr q) P2 (hp2 _ h)), fun q2 => ⟨fun q => hp _ _ (fun P2 hp2 => ref2 (fun w => by rcases w with w | w; exact q1 w; exact q2 w) (Or.inl q) P2 (hp2 _ h)), fun q3 => ⟨fun q4 => ?_, fun q => hp _ _ (fun P2 hp2 => ref2 (fun w => by rcases w with w | w; exact q1 w; exact q2 w) (Or.inr (Classical.not_not.mp q)) P2 (hp2 _ h))⟩⟩⟩⟩
  obtain ⟨R, R1, R2, rfl⟩ := rng a (lo := 1) (hi := 6) q1 q2 (by omega) (by omega)
  obtain ⟨most, m1, m2, rfl⟩ := rng b (lo := 1) (hi := 9999) q3 q4 (by omega) (by omega)
  have f12 : ((gd, gj, c) : cm_M).2.2 12 0 = nI M := c12
  have c9 : nI M ≤ 9 ↔ M ≤ 9 := nI_leI (b := 9) (by omega) (by omega)
  have start : ∀ P2 : Int64 → jm_M → Prop, (((gR 1 0) ≤ 9) → (∀ g6 : jm_M, g6 = jm_a gR 36 0 (-1) → (∃ n49 : Nat, vr_cut_52 (nI R) (nI most) (fun (y39 : Int64) (g40 : jm_M) => ((0 ≤ (lg_cmp y39 (0 : Int64))) → (∀ g42 : jm_M, g42 = jm_s g40 33 1 → (∀ g43 : jm_M, g43 = jm_s g42 34 (g42 1 0) → (P2 y39 g43)))) ∧ ((¬ 0 ≤ (lg_cmp y39 (0 : Int64))) → (P2 (-2) g40))) (fun (y44 : Int64) (g45 : jm_M) => ((0 ≤ (lg_cmp y44 (0 : Int64))) → (∀ g47 : jm_M, g47 = jm_s g45 33 1 → (∀ g48 : jm_M, g48 = jm_s g47 34 (g47 1 0) → (P2 y44 g48)))) ∧ ((¬ 0 ≤ (lg_cmp y44 (0 : Int64))) → (P2 (-2) g45))) P2 n49 (-1) 0 g6))) ∧ ((¬ (gR 1 0) ≤ 9) → (P2 (-4) gR)) → vr_cut (nI R) (nI most) gR P2 := fun P2 hq2 => by
    unfold vr_cut
    rw [vr_in_iff, if_neg (fun w => by rcases w with w | w; exact q1 w; exact q2 w)]
    refine ⟨fun q => absurd q (by decide), fun _ => ?_⟩
    rw [vr_in_iff, if_neg (fun w => by rcases w with w | w; exact q3 w; exact q4 w)]
    exact ⟨fun _ => hq2, fun q => absurd q (by decide)⟩
  rw [f12]
  refine ⟨fun q5 => ?_, fun q5 => hp _ _ (fun P2 hp2 => start P2 ⟨fun w => absurd (by rw [r1] at w; exact w) q5, fun _ => hp2 _ h⟩)⟩
  have hM9 := c9.mp q5
  have hsz : ∀ k, k < M → k_sz gR k ≤ 99 ∧ gR 2 k = nI (k_sz gR k) := fun k hk => by
    obtain ⟨z, z1, z2, z3⟩ := hX.1 k hk
    unfold k_sz
    rw [z3, v_nI (by omega)]; exact ⟨z2, rfl⟩
  obtain ⟨y, hr, hk, hu, hS, hL⟩ := id hH
  have hkR : k_R M T R most gR := ⟨hM9, R2, m2, hq, r1, hsz⟩
  obtain ⟨p1, p2, p3, p4, p5, K, k1, k2, k3, k4⟩ := id hP
  -- the reference's answer, for any continuation
  have ref : ∀ P2 : Int64 → jm_M → Prop, (∀ J : jm_M, k_J M gR J (k_A (q_pr gR T) (k_ok gR most) R M (fun _ => 0) 0 none) → ((0 ≤ (lg_cmp (k_l (k_A (q_pr gR T) (k_ok gR most) R M (fun _ => 0) 0 none)) (0 : Int64))) → (∀ g42 : jm_M, g42 = jm_s J 33 1 → (∀ g43 : jm_M, g43 = jm_s g42 34 (g42 1 0) → (P2 (k_l (k_A (q_pr gR T) (k_ok gR most) R M (fun _ => 0) 0 none)) g43)))) ∧ ((¬ 0 ≤ (lg_cmp (k_l (k_A (q_pr gR T) (k_ok gR most) R M (fun _ => 0) 0 none)) (0 : Int64))) → (P2 (-2) J))) → vr_cut (nI R) (nI most) gR P2 := by
    intro P2 hq2
    refine start P2 ⟨fun _ => nm_e ?_, fun w => absurd (by rw [r1]; exact q5) w⟩
    have g6 : jm_a gR 36 0 (-1) = jm_u gR 36 (upd (gR 36) 0 (-1)) := jm_as (n := 0) gR 36 (-1) (by omega)
    rw [g6]
    obtain ⟨J', N, a1, a2, a3⟩ := k_Uall hkR (fun (y39 : Int64) (g40 : jm_M) => ((0 ≤ (lg_cmp y39 (0 : Int64))) → (∀ g42 : jm_M, g42 = jm_s g40 33 1 → (∀ g43 : jm_M, g43 = jm_s g42 34 (g42 1 0) → (P2 y39 g43)))) ∧ ((¬ 0 ≤ (lg_cmp y39 (0 : Int64))) → (P2 (-2) g40))) P2 M 0 (fun _ => 0) none (jm_u gR 36 (upd (gR 36) 0 (-1))) (by omega) (fun j hj => absurd hj (Nat.not_lt_zero j)) ⟨fun k hk => jm_un _ _ (by omega), fun c x e => (by cases e), fun _ => jm_un _ _ (by decide)⟩ (fun ⟨c', x', e, _⟩ => by cases e) (fun _ => by rw [jm_uk, pk_us]; decide)
    refine ⟨1 + N, a3 1 ?_⟩
    unfold vr_cut_52
    exact ⟨fun _ => hq2 J' a1, fun q => absurd (by decide) q⟩
  refine prep_of hq hcc _ (fun gj' g1 g2 g3 => ?_)
  refine search_of (r := gR) hB hM9 R1 R2 m2 hq hS c12 (fun k hk => ⟨(hsz k hk).1, (congrFun e4 k).trans (hsz k hk).2⟩) g1 g2 p3 p4 _ (fun eb gj2 J' hJ' => ?_) (fun cc x eb gj2 J' hJ' h52 h51 h2 => ?_)
  · refine ⟨fun _ => hp _ _ (fun P2 hp2 => ref P2 (fun J hJ => ?_)), fun w => absurd rfl w⟩
    rw [eb] at hJ ⊢
    refine ⟨fun w => absurd w (by decide), fun _ => hp2 _ ?_⟩
    have s1 : J' = jm_o c J' 42 50 := by
      funext x
      by_cases w : 42 ≤ x ∧ x ≤ 50
      · rw [jm_o_in _ _ w.1 w.2]
      · rw [jm_o_out _ _ (by omega)]; exact hJ' x (by omega)
    have s2 := k_jo hJ.1
    have e35 := hJ.2.2 rfl
    refine ⟨M, T, N, ?_, ?_, ?_, ?_, ?_, ?_, ?_, ?_⟩
    · show b_T M T N J' J
      rw [s1, s2]; exact hT
    · rw [s2]; exact hX
    · show b_ties N J' J
      rw [s1, s2]; exact ht
    · show b_H B T gd.2.1 J' J
      rw [s1, s2]; exact hH
    · show b_W T J' J
      rw [s1, s2]; exact hW
    · show b_P M J' J
      unfold b_P
      rw [e35, s1, s2]
      exact hP
    · show b_A J'
      rw [s1]; exact hA
    · show b_I B gd J' J
      rw [s1, s2]; exact hI
  · have f2 : ((gd, gj2, J') : cm_M).2.1 2 0 = lN cc := h2
    rw [f2]
    refine ⟨fun w => absurd w (by decide), fun _ => hp _ _ (fun P2 hp2 => ref P2 (fun J hJ => ?_))⟩
    rw [eb] at hJ ⊢
    obtain ⟨c62, hx⟩ := hJ.2.1 cc x rfl
    have el : k_l (some (cc, x)) = lN cc := rfl
    rw [el]
    have ge : 0 ≤ lg_cmp (lN cc) 0 := by
      rw [lg_cmp_ge, show (0 : Int64) = lN 0 from rfl, pk_lLE (by omega) (by omega)]
      omega
    refine ⟨fun _ => nm_e (nm_e (hp2 _ ?_)), fun w => absurd ge w⟩
    have s1 : J' = jm_o c J' 42 52 := by
      funext x
      by_cases w : 42 ≤ x ∧ x ≤ 52
      · rw [jm_o_in _ _ w.1 w.2]
      · rw [jm_o_out _ _ (by omega)]; exact hJ' x (by omega)
    have s2 := k_jo hJ.1
    have e1 : J 1 0 = nI M := by rw [hJ.1 1 (by decide)]; exact r1
    refine ⟨M, T, N, ?_, ?_, ?_, ?_, ?_, ?_, ?_, ?_⟩
    · show b_T M T N J' (jm_s (jm_s J 33 1) 34 ((jm_s J 33 1) 1 0))
      rw [s1, s2]; exact hT
    · rw [s2]; exact hX
    · show b_ties N J' (jm_s (jm_s J 33 1) 34 ((jm_s J 33 1) 1 0))
      rw [s1, s2]; exact ht
    · show b_H B T gd.2.1 J' (jm_s (jm_s J 33 1) 34 ((jm_s J 33 1) 1 0))
      rw [s1, s2]; exact hH
    · show b_W T J' (jm_s (jm_s J 33 1) 34 ((jm_s J 33 1) 1 0))
      rw [s1, s2]; exact hW
    · show b_P M J' (jm_s (jm_s J 33 1) 34 ((jm_s J 33 1) 1 0))
      have d2 : J' 2 = c 2 := hJ' 2 (by decide)
      have d3 : J' 3 = c 3 := hJ' 3 (by decide)
      have d31 : (jm_s (jm_s J 33 1) 34 ((jm_s J 33 1) 1 0)) 31 = gR 31 := hJ.1 31 (by decide)
      have d32 : (jm_s (jm_s J 33 1) 34 ((jm_s J 33 1) 1 0)) 32 = gR 32 := hJ.1 32 (by decide)
      unfold b_P
      rw [d2, d3, d31, d32]
      refine ⟨p1, p2, p3, p4, p5, M, hM9, h52, Or.inr ⟨rfl, ?_⟩, fun i hi => ?_⟩
      · show upd (J 34) 0 (J 1 0) 0 = _
        rw [pk_us]; exact e1
      · show J' 51 i = J 35 i
        rw [h51 i hi, hx i hi]
    · show b_A J'
      rw [s1]; exact hA
    · show b_I B gd J' (jm_s (jm_s J 33 1) 34 ((jm_s J 33 1) 1 0))
      rw [s1, s2]; exact hI
