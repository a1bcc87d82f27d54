/-! the law's loop: every call agrees -/
theorem first_R (ae : Nat → Nat) (f : Nat → Int32) (hf : ∀ i, i < 4 → f i = 1) : b_R 0 (mc_0 ae f) mr_0 := by
  have w31 : ∀ i, i < 4 → mr_0 31 i = 1 := fun i hi => by
    rcases (show i = 0 ∨ i = 1 ∨ i = 2 ∨ i = 3 by omega) with rfl | rfl | rfl | rfl <;> rfl
  refine ⟨0, 0, 0, ⟨by omega, by omega, by omega, rfl, rfl, rfl, rfl, rfl, rfl, rfl, rfl, rfl, rfl, rfl, rfl, rfl⟩, ⟨fun i hi => absurd hi (Nat.not_lt_zero i), fun i hi => absurd hi (Nat.not_lt_zero i), fun i hi => absurd hi (Nat.not_lt_zero i), fun i hi => absurd hi (Nat.not_lt_zero i), fun i _ _ => rfl⟩, fun p _ => rfl, ⟨⟨fun i _ => rfl, fun i _ => rfl, fun i _ _ => ⟨rfl, rfl⟩⟩, ⟨fun i _ => rfl, fun i _ => ⟨0, by omega, rfl⟩⟩, ⟨fun i _ => rfl, fun i _ => rfl, fun i _ => rfl, fun i _ => ⟨0, by omega, rfl⟩⟩, ⟨fun i _ => rfl, rfl, Or.inl rfl, rfl, rfl, rfl⟩, ⟨0, 0, rfl, Nat.zero_le _, rfl, show (16 : Nat) ≤ 1024 by decide, rfl, fun i hi => absurd hi (Nat.not_lt_zero i), fun i j _ hj => absurd hj (Nat.not_lt_zero j), fun z _ _ _ => rfl⟩, ⟨0, 0, by omega, rfl, rfl, Nat.zero_le _, rfl, show (32 : Nat) ≤ 2048 by decide, rfl, fun l hl => absurd hl (Nat.not_lt_zero l), Nat.zero_le _, rfl, fun j hj => absurd hj (Nat.not_lt_zero j)⟩⟩, ⟨0, by omega, rfl, rfl, rfl, rfl, rfl, rfl, fun i _ => ⟨0, by omega, rfl, fun j hj => absurd hj (Nat.not_lt_zero j)⟩⟩, ⟨fun i hi => ?_, fun i hi => ⟨1, by omega, w31 i hi⟩, rfl, fun i j _ _ => rfl, fun i _ => Or.inl rfl, 0, by omega, rfl, Or.inl ⟨rfl, rfl⟩, fun i hi => absurd hi (Nat.not_lt_zero i)⟩, ⟨⟨0, by omega, rfl⟩, 0, by omega, rfl, fun i hi => absurd hi (Nat.not_lt_zero i), fun z _ _ => rfl⟩, fun i _ => Or.inl ⟨rfl, rfl⟩⟩
  rw [w31 i hi]
  exact hf i hi
theorem ll_5 {L k : Nat} (hL : L ≤ 2560) (hk : k ≤ 3000) : (Int32.ofNat L - 5 < nI k) ↔ L < k + 5 := by
  have h5 : (nI L - nI 5).toInt = (L : Int) - 5 := pk_sub_toInt (by omega) (by omega)
  show nI L - nI 5 < nI k ↔ _
  rw [Int32.lt_iff_toInt_lt, h5, nI_toInt (by omega)]
  omega
set_option maxHeartbeats 4000000 in
set_option maxRecDepth 100000 in
theorem law_loop {L : Nat} {xs : Nat → Int32} (hL : L ≤ 2560) : ∀ (d n uc us : Nat) (gC : cm_M) (gR : jm_M), n + d = L / 5 → uc ≤ 106 + 130 * n → us ≤ 73261 + 10240 * n → b_R n gC gR → vl_law_18 L xs True (d + 1) (nI (5 * n)) uc us (gC, gR)
  | 0, n, uc, us, gC, gR, hd, hc, hs, hR => by
    rw [vl_law_18]
    exact ⟨by omega, by omega, fun _ => trivial, fun q => absurd ((ll_5 hL (by omega)).mpr (by omega)) q⟩
  | d + 1, n, uc, us, gC, gR, hd, hc, hs, hR => by
    have h5 : nI (5 * n) + 5 = nI (5 * (n + 1)) := nI_add (5 * n) 5
    have iv0 : vp_in (nI (5 * n)) L := vp_in_nI (by omega) (by omega)
    have iv1 : vp_in (nI (5 * n) + 1) L := by rw [nI_1]; exact vp_in_nI (by omega) (by omega)
    have iv2 : vp_in (nI (5 * n) + 2) L := by rw [show nI (5 * n) + 2 = nI (5 * n + 2) from nI_add (5 * n) 2]; exact vp_in_nI (by omega) (by omega)
    have iv3 : vp_in (nI (5 * n) + 3) L := by rw [show nI (5 * n) + 3 = nI (5 * n + 3) from nI_add (5 * n) 3]; exact vp_in_nI (by omega) (by omega)
    have iv4 : vp_in (nI (5 * n) + 4) L := by rw [show nI (5 * n) + 4 = nI (5 * n + 4) from nI_add (5 * n) 4]; exact vp_in_nI (by omega) (by omega)
    have nx2 : ∀ (mc ms : Nat) (g : cm_M) (g2 : jm_M), mc ≤ 130 → ms ≤ 10240 → b_R (n + 1) g g2 → vl_law_18 L xs True (d + 1) (nI (5 * n) + 5) (uc + mc) (us + ms) (g, g2) := fun mc ms g g2 h1 h2 h3 => by
      rw [h5]
      exact law_loop hL d (n + 1) (uc + mc) (us + ms) g g2 (by omega) (by omega) (by omega) h3
    have nx : ∀ (g : cm_M) (g2 : jm_M), b_R n g g2 → vl_law_18 L xs True (d + 1) (nI (5 * n) + 5) uc us (g, g2) := fun g g2 h3 => nx2 0 0 g g2 (by omega) (by omega) (b_R_mono (Nat.le_succ n) h3)
    rw [vl_law_18]
    refine ⟨by omega, by omega, fun _ => trivial, fun _ => ⟨iv0, fun _ => nx gC gR hR, fun _ => ?_, fun _ => ?_, fun _ => ?_, fun _ => ?_, fun _ => ?_, fun _ => ?_, fun _ => ?_, fun _ => ?_, fun _ => ?_, fun _ => ?_, fun _ => ?_, fun _ => ?_, fun _ => ?_, fun _ => ?_, fun _ => ?_, fun _ => ?_, fun _ => ?_, fun _ => ?_, fun _ => ?_, fun _ => ?_, fun _ => ?_, fun _ => ?_, fun _ => ?_, fun _ => ?_, fun _ => ?_, fun _ => ?_, fun _ => ?_, fun _ => ?_, fun _ => ?_, fun _ => ?_, fun _ => ?_, fun _ => ?_, fun _ => ?_⟩⟩
    · obtain ⟨r, gR', h1, h2⟩ := op_module hR _
      exact ⟨iv1, h1 _ (fun g hg => ⟨iv1, h2 _ ⟨fun _ => nx g gR' hg, fun w => absurd rfl w⟩⟩)⟩
    · obtain ⟨r, gR', h1, h2⟩ := op_table hR _
      exact ⟨iv1, h1 _ (fun g hg => ⟨iv1, h2 _ ⟨fun _ => nx g gR' hg, fun w => absurd rfl w⟩⟩)⟩
    · obtain ⟨r, gR', h1, h2⟩ := op_routine hR _
      exact ⟨iv1, h1 _ (fun g hg => ⟨iv1, h2 _ ⟨fun _ => nx g gR' hg, fun w => absurd rfl w⟩⟩)⟩
    · obtain ⟨r, gR', h1, h2⟩ := op_line hR _ _ _ _
      exact ⟨iv1, iv2, iv3, iv4, h1 _ (fun g hg => ⟨iv1, iv2, iv3, iv4, h2 _ ⟨fun _ => nx g gR' hg, fun w => absurd rfl w⟩⟩)⟩
    · obtain ⟨r, gR', h1, h2⟩ := op_clear hR _
      exact ⟨iv1, h1 _ (fun g hg => ⟨iv1, h2 _ ⟨fun _ => nx g gR' hg, fun w => absurd rfl w⟩⟩)⟩
    · obtain ⟨r, SC, SR, h1, h2, h3⟩ := op_run hR (by omega) _ _
      exact ⟨iv1, iv2, 2, 2048, by omega, by omega, h1 2 2048 _ (Nat.le_refl _) (Nat.le_refl _) (fun g hg => ⟨iv1, iv2, h2 _ (fun g2 hg2 => ⟨fun _ => nx2 2 2048 g g2 (by omega) (by omega) (h3 g g2 hg hg2), fun w => absurd rfl w⟩)⟩)⟩
    · obtain ⟨r, h1, h2⟩ := op_cell hR _ _ _
      exact ⟨iv1, iv2, iv3, h1 _ ⟨iv1, iv2, iv3, h2 _ ⟨fun _ => nx gC gR hR, fun w => absurd rfl w⟩⟩⟩
    · obtain ⟨r, h1, h2⟩ := op_counted hR _ _ _
      exact ⟨iv1, iv2, iv3, h1 _ ⟨iv1, iv2, iv3, h2 _ ⟨fun _ => nx gC gR hR, fun w => absurd rfl w⟩⟩⟩
    · obtain ⟨r, h1, h2⟩ := op_tied hR _ _ _
      exact ⟨iv1, iv2, iv3, h1 _ ⟨iv1, iv2, iv3, h2 _ ⟨fun _ => nx gC gR hR, fun w => absurd rfl w⟩⟩⟩
    · obtain ⟨r, gR', h1, h2⟩ := op_room hR _ _
      exact ⟨iv1, iv2, h1 _ (fun g hg => ⟨iv1, iv2, h2 _ ⟨fun _ => nx g gR' hg, fun w => absurd rfl w⟩⟩)⟩
    · obtain ⟨r, gR', h1, h2⟩ := op_weight hR _ _
      exact ⟨iv1, iv2, h1 _ (fun g hg => ⟨iv1, iv2, h2 _ ⟨fun _ => nx g gR' hg, fun w => absurd rfl w⟩⟩)⟩
    · obtain ⟨r, gR', h1, h2⟩ := op_tell hR _ _ _
      exact ⟨iv1, iv2, iv3, h1 _ (fun g hg => ⟨iv1, iv2, iv3, h2 _ ⟨fun _ => nx g gR' hg, fun w => absurd rfl w⟩⟩)⟩
    · obtain ⟨x, h1, h2⟩ := op_price hR (by omega)
      exact h1 _ (fun g hg => h2 _ ⟨fun _ => nx g gR hg, fun w => absurd ((lg_cmp_eq x x).mpr rfl) w⟩)
    · exact ⟨iv1, iv2, op_cut hR (by omega) _ _ _ (fun x g hg => ⟨iv1, iv2, hg _ (fun g2 hg2 => ⟨fun _ => nx g g2 hg2, fun w => absurd ((lg_cmp_eq x x).mpr rfl) w⟩)⟩)⟩
    · obtain ⟨r, h1, h2⟩ := op_put hR _
      exact ⟨iv1, h1 _ ⟨iv1, h2 _ ⟨fun _ => nx gC gR hR, fun w => absurd rfl w⟩⟩⟩
    · exact ⟨iv1, op_ring hR _ 0 0 _ (Nat.le_refl _) (Nat.le_refl _) (fun r g hg => ⟨iv1, hg _ (fun g2 hg2 => ⟨fun _ => nx g g2 hg2, fun w => absurd rfl w⟩)⟩)⟩
    · obtain ⟨r, SC, SR, h1, h2, h3⟩ := op_act hR _ _
      exact ⟨iv1, iv2, 128, 8192, by omega, by omega, h1 128 8192 _ (Nat.le_refl _) (Nat.le_refl _) (fun g hg => ⟨iv1, iv2, h2 _ (fun g2 hg2 => ⟨fun _ => nx2 128 8192 g g2 (by omega) (by omega) (b_R_mono (Nat.le_succ n) (h3 g g2 hg hg2)), fun w => absurd rfl w⟩)⟩)⟩
    · obtain ⟨r, gR', h1, h2⟩ := op_deliver hR _
      exact ⟨iv1, h1 _ (fun g hg => ⟨iv1, h2 _ ⟨fun _ => nx g gR' hg, fun w => absurd rfl w⟩⟩)⟩
    · obtain ⟨r, SC, SR, h1, h2, h3⟩ := op_settle hR 
      exact h1 _ (fun g hg => h2 _ (fun g2 hg2 => ⟨fun _ => nx g g2 (h3 g g2 hg hg2), fun w => absurd rfl w⟩))
    · obtain ⟨r, h1, h2⟩ := op_letter hR _ _
      exact ⟨iv1, iv2, h1 _ ⟨iv1, iv2, h2 _ ⟨fun _ => nx gC gR hR, fun w => absurd rfl w⟩⟩⟩
    · obtain ⟨r, gR', h1, h2⟩ := op_law hR _
      exact ⟨iv1, h1 _ (fun g hg => ⟨iv1, h2 _ ⟨fun _ => nx g gR' hg, fun w => absurd rfl w⟩⟩)⟩
    · obtain ⟨r, gR', h1, h2⟩ := op_term hR _ _ _ _
      exact ⟨iv1, iv2, iv3, iv4, h1 _ (fun g hg => ⟨iv1, iv2, iv3, iv4, h2 _ ⟨fun _ => nx g gR' hg, fun w => absurd rfl w⟩⟩)⟩
    · obtain ⟨r, h1, h2⟩ := op_holds hR _ _
      exact ⟨iv1, iv2, h1 _ ⟨iv1, iv2, h2 _ ⟨fun _ => nx gC gR hR, fun w => absurd rfl w⟩⟩⟩
    · exact ⟨iv1, op_broken hR _ 0 0 _ (Nat.le_refl _) (Nat.le_refl _) (fun r g hg => ⟨iv1, hg _ (fun g2 hg2 => ⟨fun _ => nx g g2 hg2, fun w => absurd rfl w⟩)⟩)⟩
    · exact ⟨iv1, iv2, op_worst hR _ _ 0 0 _ (Nat.le_refl _) (Nat.le_refl _) (fun r g hg => ⟨iv1, iv2, hg _ (fun g2 hg2 => ⟨fun _ => nx g g2 hg2, fun w => absurd rfl w⟩)⟩)⟩
    · exact op_orders hR  0 0 _ (Nat.le_refl _) (Nat.le_refl _) (fun r g hg => hg _ (fun g2 hg2 => ⟨fun _ => nx g g2 hg2, fun w => absurd rfl w⟩))
    · exact ⟨iv1, iv2, 130, 10240, by omega, by omega, op_beside hR (by omega) _ _ 130 10240 _ (Nat.le_refl _) (Nat.le_refl _) (fun r g hg => ⟨iv1, iv2, hg _ (fun g2 hg2 => ⟨fun _ => nx2 130 10240 g g2 (by omega) (by omega) hg2, fun w => absurd rfl w⟩)⟩)⟩
    · obtain ⟨r, h1, h2⟩ := op_unlike hR _
      exact ⟨iv1, h1 _ ⟨iv1, h2 _ ⟨fun _ => nx gC gR hR, fun w => absurd rfl w⟩⟩⟩
    · obtain ⟨r, h1, h2⟩ := op_differ hR 
      exact h1 _ (h2 _ ⟨fun _ => nx gC gR hR, fun w => absurd rfl w⟩)
    · obtain ⟨r, SC, SR, h1, h2, h3⟩ := op_sync hR 
      exact h1 _ (fun g hg => h2 _ (fun g2 hg2 => ⟨fun _ => nx g g2 (h3 g g2 hg hg2), fun w => absurd rfl w⟩))
    · obtain ⟨r, SC, SR, h1, h2, h3⟩ := op_image hR _
      exact ⟨iv1, 17, 6990, by omega, by omega, h1 17 6990 _ (Nat.le_refl _) (Nat.le_refl _) (fun g hg => ⟨iv1, h2 _ (fun g2 hg2 => ⟨fun _ => nx2 17 6990 g g2 (by omega) (by omega) (b_R_mono (Nat.le_succ n) (h3 g g2 hg hg2)), fun w => absurd rfl w⟩)⟩)⟩
    · obtain ⟨r, SC, SR, h1, h2, h3⟩ := op_restore hR _
      exact ⟨iv1, 4, 6144, by omega, by omega, h1 4 6144 _ (Nat.le_refl _) (Nat.le_refl _) (fun g hg => ⟨iv1, h2 _ (fun g2 hg2 => ⟨fun _ => nx2 4 6144 g g2 (by omega) (by omega) (b_R_mono (Nat.le_succ n) (h3 g g2 hg hg2)), fun w => absurd rfl w⟩)⟩)⟩
    · obtain ⟨r, h1, h2⟩ := op_count hR _
      exact ⟨iv1, h1 _ ⟨iv1, h2 _ ⟨fun _ => nx gC gR hR, fun w => absurd rfl w⟩⟩⟩
