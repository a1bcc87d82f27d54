/-- the first room of a ring -/
theorem rg_T0 {ld : Nat → Nat → Prop} {gd : cm_D} {gj : cm_J} {c1 r1 : jm_M} (hL : rg_L ld c1 r1) {len : Nat} (h2 : 2 ≤ len) (h6 : len ≤ 6) : ∀ (d r : Nat) (u v : Nat → Int32), r + d = 6 → v 0 + 1 = nI r → ∃ (x : Int32) (u' v' : Nat → Int32) (N : Nat), (x = 0 ∨ x = 1) ∧ (x = 1 → ∀ j, j < len → ∃ z, z < 6 ∧ u' j = nI z ∧ v' j = nI z) ∧ (∀ (K : cm_M → Prop) Post, (x = 0 → K (gd, gj, jm_u c1 53 u')) → (x = 1 → Post (nI len) ((gd, gj, jm_u c1 53 u') : cm_M)) → vc_X8_shortest_17 (nI len) K Post (d + 1) (nI r) (gd, gj, jm_u c1 53 u)) ∧ (∀ f Post, (x = 1 → Post 1 (jm_u r1 39 v')) → (x = 0 → vr_findRing_9 (nI len) Post f (nI 0 + (-1)) (jm_u r1 39 v')) → vr_findRing_9 (nI len) Post (f + N) (nI 0) (jm_u r1 39 v))
  | 0, r, u, v, hr, hv => by
    obtain rfl : r = 6 := by omega
    refine ⟨0, u, upd v 0 (nI 6), 1, Or.inl rfl, fun e => absurd e (by decide), fun K Post hK hP => ?_, fun f Post h1 h0 => fr_end (by omega) hv Post (h0 rfl)⟩
    unfold vc_X8_shortest_17
    exact ⟨fun _ => hK rfl, fun q => absurd (by decide) q⟩
  | d + 1, r, u, v, hr, hv => by
    have hr6 : r < 6 := by omega
    obtain ⟨k, hk⟩ : ∃ k, 0 + 1 + k = len := ⟨len - 1, by omega⟩
    have g5 : cm_a (gd, gj, jm_u c1 53 u) 53 0 (nI r) = (gd, gj, jm_u c1 53 (upd u 0 (nI r))) := by
      show (gd, gj, jm_a (jm_u c1 53 u) 53 (nI 0) (nI r)) = _
      rw [jm_as _ _ _ (by omega), jm_uk, jm_uu]
    obtain ⟨x1, u1, v1, N1, ⟨a1, a2, a3⟩, cl, rf⟩ := rg_all (gd := gd) (gj := gj) hL h2 h6 k 0 (upd u 0 (nI r)) (upd v 0 (nI r)) (fun _ => r) (2 ^ r) hk (fun j hj => by
      obtain rfl : j = 0 := by omega
      rw [pk_us, pk_us]; exact ⟨hr6, rfl, rfl⟩) (fun i j hij hj => by omega) (Nat.pow_lt_pow_right (by omega) hr6) (fun b hb => by
      rw [Nat.testBit_two_pow, decide_eq_true_eq]
      exact ⟨fun e => ⟨0, Nat.le_refl _, e⟩, fun ⟨_, _, e⟩ => e⟩)
    have hstep : ∀ f Post, rg_AF len Post f 0 (jm_u r1 39 (upd v 0 (nI r))) → vr_findRing_9 (nI len) Post (f + 1) (nI 0) (jm_u r1 39 v) := fun f Post h =>
      fr_step hL (p := fun _ => 0) (r := r) (by omega) (fun j hj => absurd hj (Nat.not_lt_zero j)) hv hr6 Post (fun _ => h) (fun w => absurd ⟨fun j hj => absurd hj (Nat.not_lt_zero j), Or.inl rfl⟩ w)
    rcases a1 with rfl | rfl
    · have hvn : v1 0 + 1 = nI (r + 1) := by rw [(a2 rfl 0 (Nat.le_refl _)).2, nI_1]
      obtain ⟨x, u', v', N, b1, b2, b3, b4⟩ := rg_T0 (gd := gd) (gj := gj) hL h2 h6 d (r + 1) u1 v1 (by omega) hvn
      refine ⟨x, u', v', N + N1 + 1, b1, b2, fun K Post hK hP => ?_, fun f Post h1 h0 => ?_⟩
      · unfold vc_X8_shortest_17
        rw [g5, nI_shl1 (by omega), nI_1]
        refine ⟨fun q => absurd q (nI_ge (b := 6) (by omega) (by omega)), fun _ => nm_e ⟨12, Nat.le_refl _, ?_⟩⟩
        exact cl 12 _ (by omega) ⟨fun _ => b3 K Post hK hP, fun q => absurd rfl q⟩
      · rw [show f + (N + N1 + 1) = f + N + N1 + 1 by omega]
        exact hstep _ Post (rf (f + N) Post (fun e => absurd e (by decide)) (fun _ => b4 f Post h1 h0))
    · refine ⟨1, u1, v1, N1 + 1, Or.inr rfl, a3, fun K Post hK hP => ?_, fun f Post h1 h0 => ?_⟩
      · unfold vc_X8_shortest_17
        rw [g5, nI_shl1 (by omega), nI_1]
        refine ⟨fun q => absurd q (nI_ge (b := 6) (by omega) (by omega)), fun _ => nm_e ⟨12, Nat.le_refl _, ?_⟩⟩
        exact cl 12 _ (by omega) ⟨fun q => absurd q (by decide), fun _ => hP rfl⟩
      · rw [show f + (N1 + 1) = f + N1 + 1 by omega]
        exact hstep _ Post (rf f Post h1 (fun e => absurd e (by decide)))
theorem rg_len {ld : Nat → Nat → Prop} {gd : cm_D} {gj : cm_J} {c1 r1 : jm_M} (hL : rg_L ld c1 r1) : ∀ (d k : Nat) (u v : Nat → Int32), 2 ≤ k → k + d = 7 → ∃ (L : Nat) (u' v' : Nat → Int32), (L = 0 ∨ (2 ≤ L ∧ L ≤ 6 ∧ ∀ j, j < L → ∃ z, z < 6 ∧ u' j = nI z ∧ v' j = nI z)) ∧ (∀ Post, Post (nI L) ((gd, gj, jm_u c1 53 u') : cm_M) → vc_X8_shortest_8 Post (d + 1) (nI k) (gd, gj, jm_u c1 53 u)) ∧ (∀ (a : Int32) K Post, (L = 0 → Post (-1) (jm_u r1 39 v')) → (L ≠ 0 → K (nI L) (jm_u r1 39 v')) → vr_ring_6 a K Post (d + 1) (nI k) (jm_u r1 39 v))
  | 0, k, u, v, h2, hk => by
    obtain rfl : k = 7 := by omega
    refine ⟨0, u, v, Or.inl rfl, fun Post hP => ?_, fun a K Post h1 _ => ?_⟩
    · unfold vc_X8_shortest_8
      exact ⟨fun _ => hP, fun q => absurd (by decide) q⟩
    · unfold vr_ring_6
      exact ⟨fun _ => h1 rfl, fun q => absurd (by decide) q⟩
  | d + 1, k, u, v, h2, hk => by
    have k6 : k ≤ 6 := by omega
    obtain ⟨x, u1, v1, N, b1, b2, b3, b4⟩ := rg_T0 (gd := gd) (gj := gj) hL h2 k6 6 0 u (upd v 0 (-1)) (by omega) (by rw [pk_us]; decide)
    have start : ∀ Post, (∃ n10 : Nat, vr_findRing_9 (nI k) Post n10 (nI 0) (jm_u r1 39 (upd v 0 (-1)))) → vr_findRing (nI k) (jm_u r1 39 v) Post := fun Post h => by
      refine nm_e ?_
      have : jm_a (jm_u r1 39 v) 39 0 (-1) = jm_u r1 39 (upd v 0 (-1)) := by
        show jm_a (jm_u r1 39 v) 39 (nI 0) (-1) = _
        rw [jm_as _ _ _ (by omega), jm_uk, jm_uu]
      rw [this]; exact h
    have n6 : ¬ (6 : Int32) < nI k := nI_nlt (a := 6) (by omega) (by omega)
    rcases b1 with rfl | rfl
    · obtain ⟨L, u', v', e1, e2, e3⟩ := rg_len (gd := gd) (gj := gj) hL d (k + 1) u1 v1 (by omega) (by omega)
      refine ⟨L, u', v', e1, fun Post hP => ?_, fun a K Post h1 h2' => ?_⟩
      · unfold vc_X8_shortest_8
        refine ⟨fun q => absurd q n6, fun _ => ⟨7, b3 _ Post (fun _ => ?_) (fun e => absurd e (by decide))⟩⟩
        rw [nI_1]; exact e2 Post hP
      · unfold vr_ring_6
        refine ⟨fun q => absurd q n6, fun _ => start _ ⟨1 + N, b4 1 _ (fun e => absurd e (by decide)) (fun _ => ?_)⟩⟩
        unfold vr_findRing_9
        refine ⟨fun _ => ⟨fun _ => ?_, fun q => absurd rfl q⟩, fun q => absurd (by decide) q⟩
        rw [nI_1]; exact e3 a K Post h1 h2'
    · refine ⟨k, u1, v1, Or.inr ⟨h2, k6, b2 rfl⟩, fun Post hP => ?_, fun a K Post h1 h2' => ?_⟩
      · unfold vc_X8_shortest_8
        exact ⟨fun q => absurd q n6, fun _ => ⟨7, b3 _ Post (fun e => absurd e (by decide)) (fun _ => hP)⟩⟩
      · unfold vr_ring_6
        exact ⟨fun q => absurd q n6, fun _ => start _ ⟨0 + N, b4 0 _ (fun _ => ⟨fun q => absurd q (by decide), fun _ => h2' (by omega)⟩) (fun e => absurd e (by decide))⟩⟩
theorem op_ring {B : Nat} {gC : cm_M} {gR : jm_M} (h : b_R B gC gR) (a : Int32) : b_sim2 B 0 0 (fun _ _ => vc_X10_ring a gC) (vr_ring a gR) := by
  obtain ⟨M, T, N, hT, hX, ht, hH, hW, hP, hA, hI⟩ := id h
  obtain ⟨hM, hT16, hN, c12, r1, c13, r3, c14, r5, e4⟩ := id hT
  obtain ⟨gd, gj, c⟩ := gC
  obtain ⟨hy, ⟨hr1, hr2⟩, hk, hu, hS, hL⟩ := id hH
  have ho : rg_ok M T N gR := ⟨hM, hT16, hN, hX, r1, r5, fun i hi => by
    obtain ⟨z, hz, ez⟩ := hr2 i hi
    rw [ez, v_nI (by omega)]; exact ⟨hz, rfl⟩⟩
  have hc : rg_c M N c gR := ⟨c12, hr1, fun p hp => ⟨ht p hp, by have := b_cnt_le hX p N (Nat.le_refl N); omega⟩⟩
  intro MC MS P _ _ hp
  show vc_X8_shortest (gd, gj, c) _
  obtain ⟨v38, hv38, fl⟩ := lf_of ho
  refine rc_of ho hc _ (fun u54 hu54 => ⟨6, ?_⟩)
  have hLL : rg_L (rg_d gR M N M 0) (jm_u c 54 u54) (jm_u gR 38 v38) := ⟨hu54, hv38⟩
  obtain ⟨L, u', v', e1, e2, e3⟩ := rg_len (gd := gd) (gj := gj) hLL 5 2 ((jm_u c 54 u54) 53) ((jm_u gR 38 v38) 39) (Nat.le_refl _) (by omega)
  rw [jm_u0] at e2
  refine e2 _ ?_
  have rel : b_R B ((gd, gj, jm_u (jm_u c 54 u54) 53 u') : cm_M) (jm_u (jm_u gR 38 v38) 39 v') := ⟨M, T, N, hT, hX, ht, hH, hW, hP, hA, hI⟩
  have ref : ∀ P2 : Int32 → jm_M → Prop, (L = 0 → P2 (-1) (jm_u (jm_u gR 38 v38) 39 v')) → (L ≠ 0 → vr_in a 0 (nI L - 1) (jm_u (jm_u gR 38 v38) 39 v') (fun (r9 : Int32) => ((r9 = 0) → (P2 (-1) (jm_u (jm_u gR 38 v38) 39 v'))) ∧ ((¬ r9 = 0) → ((vp_in a 7) ∧ (P2 ((jm_u (jm_u gR 38 v38) 39 v') 39 a.toNatClampNeg) (jm_u (jm_u gR 38 v38) 39 v')))))) → vr_ring a gR P2 := by
    intro P2 h1 h2
    refine fl _ ⟨6, ?_⟩
    have := e3 a (fun (y7 : Int32) (g8 : jm_M) => vr_in a 0 (y7 - 1) g8 (fun (r9 : Int32) => ((r9 = 0) → (P2 (-1) g8)) ∧ ((¬ r9 = 0) → ((vp_in a 7) ∧ (P2 (g8 39 a.toNatClampNeg) g8))))) P2 h1 h2
    rw [jm_u0] at this
    exact this
  rcases e1 with rfl | ⟨g1, g2, g3⟩
  · refine ⟨fun q => hp _ _ (fun P2 hp2 => ref P2 (fun _ => hp2 _ rel) (fun w => absurd rfl w)), fun q => ⟨fun _ => hp _ _ (fun P2 hp2 => ref P2 (fun _ => hp2 _ rel) (fun w => absurd rfl w)), fun w => absurd (Int32.not_lt.mp q) w⟩⟩
  · rcases ix_cases a (n := L) (by omega) with h1 | ⟨i, hi, rfl, h1⟩
    · have bad : ∀ P2 : Int32 → jm_M → Prop, (∀ g2, b_R B ((gd, gj, jm_u (jm_u c 54 u54) 53 u') : cm_M) g2 → P2 (-1) g2) → vr_ring a gR P2 := fun P2 hp2 => ref P2 (fun w => by omega) (fun _ => by
        rw [vr_idx (by omega) _ _ rfl, if_pos h1]
        exact ⟨fun _ => hp2 _ rel, fun w => absurd rfl w⟩)
      refine ⟨fun q => hp _ _ bad, fun q => ⟨fun _ => hp _ _ bad, fun w => ?_⟩⟩
      rcases h1 with h1 | h1
      · exact absurd h1 q
      · exact absurd h1 w
    · obtain ⟨z, hz, z1, z2⟩ := g3 i hi
      have fu : ((gd, gj, jm_u (jm_u c 54 u54) 53 u') : cm_M).2.2 53 i = nI z := by show (jm_u (jm_u c 54 u54) 53 u') 53 i = _; rw [jm_uk]; exact z1
      have fv : (jm_u (jm_u gR 38 v38) 39 v') 39 i = nI z := by rw [jm_uk]; exact z2
      rw [tn_nI (by omega), fu]
      refine ⟨fun q => absurd (Or.inl q) h1, fun _ => ⟨fun q => absurd (Or.inr q) h1, fun _ => ⟨vp_in_nI (by omega) (by omega), hp _ _ (fun P2 hp2 => ref P2 (fun w => by omega) (fun _ => ?_))⟩⟩⟩
      rw [vr_idx (by omega) _ _ rfl, if_neg h1, tn_nI (by omega), fv]
      exact ⟨fun w => absurd w (by decide), fun _ => ⟨vp_in_nI (by omega) (by omega), hp2 _ rel⟩⟩
