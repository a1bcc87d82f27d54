/-! letters -/
theorem wl_mem (f : Nat → Int32) (S l : Nat) : l ∈ b_wl f S ↔ l < S ∧ f l = 1 := by
  unfold b_wl
  rw [List.mem_filter, List.mem_range]
  simp
theorem wl_srt (f : Nat → Int32) (S : Nat) : (b_wl f S).Pairwise (· < ·) := by
  unfold b_wl
  exact List.Pairwise.filter _ (List.pairwise_lt_range)
theorem srt_eq : ∀ (a b : List Nat), a.Pairwise (· < ·) → b.Pairwise (· < ·) → (∀ x, x ∈ a ↔ x ∈ b) → a = b
  | [], [], _, _, _ => rfl
  | [], y :: b, _, _, h => absurd ((h y).mpr (List.mem_cons_self)) (List.not_mem_nil)
  | x :: a, [], _, _, h => absurd ((h x).mp (List.mem_cons_self)) (List.not_mem_nil)
  | x :: a, y :: b, ha, hb, h => by
    obtain ⟨ha1, ha2⟩ := List.pairwise_cons.mp ha
    obtain ⟨hb1, hb2⟩ := List.pairwise_cons.mp hb
    have e : x = y := by
      have h1 := (h x).mp (List.mem_cons_self)
      have h2 := (h y).mpr (List.mem_cons_self)
      rcases List.mem_cons.mp h1 with q | q
      · exact q
      · rcases List.mem_cons.mp h2 with p | p
        · exact p.symm
        · have := hb1 x q; have := ha1 y p; omega
    subst e
    congr 1
    refine srt_eq a b ha2 hb2 (fun z => ⟨fun q => ?_, fun q => ?_⟩)
    · rcases List.mem_cons.mp ((h z).mp (List.mem_cons_of_mem _ q)) with p | p
      · have := ha1 z q; omega
      · exact p
    · rcases List.mem_cons.mp ((h z).mpr (List.mem_cons_of_mem _ q)) with p | p
      · have := hb1 z q; omega
      · exact p
theorem gd_mem {xs : List Nat} {j : Nat} (h : j < xs.length) : xs.getD j 0 ∈ xs := by
  rw [List.getD_eq_getElem?_getD, List.getElem?_eq_getElem h]
  exact List.getElem_mem h
theorem mem_gd {xs : List Nat} {l : Nat} (h : l ∈ xs) : ∃ j, j < xs.length ∧ xs.getD j 0 = l := by
  obtain ⟨j, hj, e⟩ := List.getElem_of_mem h
  refine ⟨j, hj, ?_⟩
  rw [List.getD_eq_getElem?_getD, List.getElem?_eq_getElem hj]
  exact e
/-- where a letter stands among those that wait -/
theorem place_loop {g : cm_M} {xs : List Nat} {l : Nat} (hW : xs.length ≤ 40) (e41 : g.2.2 41 0 = nI xs.length) (e39 : ∀ j, j < xs.length → g.2.2 39 j = nI (xs.getD j 0)) (hx : ∀ x, x ∈ xs → x < 2 ^ 31) (hl : l < 2 ^ 31) : ∀ d i, i + d = xs.length → ∃ j, i ≤ j ∧ j ≤ xs.length ∧ (j < xs.length → xs.getD j 0 = l) ∧ (∀ k, i ≤ k → k < j → xs.getD k 0 ≠ l) ∧ ∀ P : Int32 → Prop, P (nI j) → vc_X6_placeInWaiting_2 (nI l) g P (d + 1) (nI i)
  | 0, i, hi => by
    refine ⟨i, Nat.le_refl i, by omega, fun q => absurd q (by omega), fun k h1 h2 => absurd h2 (by omega), fun P hp => ?_⟩
    have e : i = xs.length := by omega
    unfold vc_X6_placeInWaiting_2
    rw [e41, ← e]
    exact ⟨fun _ => hp, fun q => absurd (nI_le (Nat.le_refl _) (by omega)) q⟩
  | d + 1, i, hi => by
    have hi2 : i < xs.length := by omega
    have t1 : (nI i).toNatClampNeg = i := tn_nI (by omega)
    have i1 : vp_in (nI i) 40 := vp_in_nI (by omega) (by omega)
    have hge : ¬ nI xs.length ≤ nI i := nI_ge hi2 (by omega)
    have ee : nI (xs.getD i 0) = nI l ↔ xs.getD i 0 = l := nI_eq (hx _ (gd_mem hi2)) hl
    by_cases e : xs.getD i 0 = l
    · refine ⟨i, Nat.le_refl i, by omega, fun _ => e, fun k h1 h2 => absurd h2 (by omega), fun P hp => ?_⟩
      unfold vc_X6_placeInWaiting_2
      rw [e41, t1, e39 i hi2]
      exact ⟨fun q => absurd q hge, fun _ => ⟨i1, fun q => absurd (ee.mpr e) q, fun _ => hp⟩⟩
    · obtain ⟨j, j1, j2, j3, j4, j5⟩ := place_loop hW e41 e39 hx hl d (i + 1) (by omega)
      refine ⟨j, by omega, j2, j3, fun k h1 h2 => ?_, fun P hp => ?_⟩
      · by_cases q : k = i
        · subst q; exact e
        · exact j4 k (by omega) h2
      · unfold vc_X6_placeInWaiting_2
        rw [e41, t1, e39 i hi2]
        refine ⟨fun q => absurd q hge, fun _ => ⟨i1, fun _ => ?_, fun q => absurd (ee.mp q) e⟩⟩
        rw [nI_1]; exact j5 P hp
theorem place_of {g : cm_M} {xs : List Nat} {l : Nat} (hW : xs.length ≤ 40) (e41 : g.2.2 41 0 = nI xs.length) (e39 : ∀ j, j < xs.length → g.2.2 39 j = nI (xs.getD j 0)) (hx : ∀ x, x ∈ xs → x < 2 ^ 31) (hl : l < 2 ^ 31) : ∃ j, j ≤ xs.length ∧ (j < xs.length ↔ l ∈ xs) ∧ (j < xs.length → xs.getD j 0 = l) ∧ ∀ P : Int32 → Prop, P (nI j) → vc_X6_placeInWaiting (nI l) g P := by
  obtain ⟨j, j1, j2, j3, j4, j5⟩ := place_loop hW e41 e39 hx hl xs.length 0 (by omega)
  refine ⟨j, j2, ⟨fun q => ?_, fun q => ?_⟩, j3, fun P hp => ⟨_, j5 P hp⟩⟩
  · rw [← j3 q]; exact gd_mem q
  · obtain ⟨k, hk, ek⟩ := mem_gd q
    rcases Nat.lt_or_ge j xs.length with w | w
    · exact w
    · exact absurd ek (j4 k (by omega) (by omega))
theorem vc_knows_iff {S : Nat} {g : cm_M} (h : g.2.2 40 0 = nI S) (a : Int32) (P : Int32 → Prop) : vc_X6_knows a g P ↔ P (if a < 0 ∨ nI S ≤ a then 0 else 1) := by
  unfold vc_X6_knows
  rw [h]
  by_cases h1 : a < 0
  · simp [h1]
  · by_cases h2 : nI S ≤ a <;> simp [h1, h2]
theorem d36 {k f t : Nat} (hf : f < 6) (ht : t < 6) : ((k * 6 + f) * 6 + t) / 36 = k ∧ ((k * 6 + f) * 6 + t) / 6 % 6 = f ∧ ((k * 6 + f) * 6 + t) % 6 = t := by omega
theorem cellOf_of {T : Nat} {g : cm_M} {l k f t : Nat} (hn : l < g.1.2.1 2) (hn2 : g.1.2.1 2 ≤ 2048) (hT16 : T ≤ 16) (hk : k < 8 * T) (hf : f < 6) (ht : t < 6) (e : g.2.2 37 l = nI ((k * 6 + f) * 6 + t)) (P : Int32 → Prop) (hp : P (nI k)) : vc_X6_cellOf (nI l) g P := by
  refine ⟨vp_in_nI hn (by omega), ?_⟩
  rw [tn_nI (by omega), e, show (36 : Int32) = nI 36 from rfl, pk_div (by omega) (by omega) (by omega), (d36 hf ht).1]
  exact hp
theorem op_letter {B : Nat} {gC : cm_M} {gR : jm_M} (h : b_R B gC gR) (a b : Int32) : ∃ (r : Int32), (∀ P : Int32 → Prop, P r → vc_X10_letter a b gC P) ∧ (∀ P : Int32 → Prop, P r → vr_letter a b gR P) := by
  obtain ⟨M, T, N, hT, hX, ht, ⟨hc, hr, hk, hu, hs, S, e, l1, l2, l3, l4, l5, l6, l7, l8, l9, l10, l11⟩, hW, hP, hA, hI⟩ := id h
  obtain ⟨hM, hT16, hN, c12, r1, c13, r3, c14, r5, -⟩ := id hT
  rcases ix_cases a (n := S) (by omega) with h1 | ⟨l, hl, rfl, h1⟩
  · refine ⟨-2000000000, fun P hp => ?_, fun P hp => ?_⟩
    · simp [vc_X10_letter, vc_knows_iff l2, h1, hp]
    · unfold vr_letter; rw [vr_idx (by omega) gR _ l3, if_pos h1]; exact ⟨fun q => absurd rfl q, fun _ => hp⟩
  obtain ⟨k, f, t, k1, k2, k3, k4, k5, k6, k7, k8, k9⟩ := l8 l hl
  have t1 : (nI l).toNatClampNeg = l := tn_nI (by omega)
  have i2 : vp_in (nI l) 2000 := vp_in_nI (by omega) (by omega)
  have i3 : vp_in (nI l) (gC.1.2.1 2) := vp_in_nI (by omega) (by omega)
  have i4 : vp_in (nI l) (gC.1.2.1 3) := vp_in_nI (by omega) (by omega)
  obtain ⟨d1, d2, d3⟩ := d36 (k := k) k2 k3
  have red : ∀ (r : Int32), (∀ P : Int32 → Prop, P r → vc_X6_fact (nI l) b gC P) → (∀ P : Int32 → Prop, P r → (((b.toInt < 0 ∨ 5 < b.toInt) → (P (-2000000000))) ∧ (b = 0 → ((vp_in (nI l) 2000) ∧ (P ((gR 41 (nI l).toNatClampNeg) / 8)))) ∧ (b = 1 → ((vp_in (nI l) 2000) ∧ (P ((gR 41 (nI l).toNatClampNeg) - (gR 41 (nI l).toNatClampNeg) / 8 * 8)))) ∧ (b = 2 → ((vp_in (nI l) 2000) ∧ (P (gR 42 (nI l).toNatClampNeg)))) ∧ (b = 3 → ((vp_in (nI l) 2000) ∧ (P (gR 43 (nI l).toNatClampNeg)))) ∧ (b = 4 → ((vp_in (nI l) 2000) ∧ (P (gR 44 (nI l).toNatClampNeg)))) ∧ (b = 5 → ((vp_in (nI l) 2000) ∧ (((gR 45 (nI l).toNatClampNeg) = 0 → P 0) ∧ (¬ (gR 45 (nI l).toNatClampNeg) = 0 → P 1)))))) → ∃ (r : Int32), (∀ P : Int32 → Prop, P r → vc_X10_letter (nI l) b gC P) ∧ (∀ P : Int32 → Prop, P r → vr_letter (nI l) b gR P) := by
    intro r q1 q2
    refine ⟨r, fun P hp => ?_, fun P hp => ?_⟩
    · unfold vc_X10_letter; rw [vc_knows_iff l2, if_neg h1]; exact ⟨fun q => absurd q (by decide), fun _ => q1 _ hp⟩
    · unfold vr_letter; rw [vr_idx (by omega) gR _ l3, if_neg h1]
      exact ⟨fun _ => q2 P hp, fun q => absurd q (by decide)⟩
  have e8 : nI k / 8 = nI (k / 8) := pk_div (d := 8) (by omega) (by omega) (by omega)
  have er8 : nI k - nI k / 8 * 8 = nI (k % 8) := pk_rem (d := 8) (by omega) (by omega) (by omega)
  have e6 : nI ((k * 6 + f) * 6 + t) / 6 = nI (((k * 6 + f) * 6 + t) / 6) := pk_div (d := 6) (by omega) (by omega) (by omega)
  have er6 : nI ((k * 6 + f) * 6 + t) - nI ((k * 6 + f) * 6 + t) / 6 * 6 = nI t := by
    have := pk_rem (a := (k * 6 + f) * 6 + t) (d := 6) (by omega) (by omega) (by omega)
    rw [d3] at this; exact this
  have er7 : nI (((k * 6 + f) * 6 + t) / 6) - nI (((k * 6 + f) * 6 + t) / 6) / 6 * 6 = nI f := by
    have := pk_rem (a := ((k * 6 + f) * 6 + t) / 6) (d := 6) (by omega) (by omega) (by omega)
    rw [d2] at this; exact this
  have cell := fun P hp => cellOf_of (g := gC) (T := T) (l := l) (by omega) l6 hT16 k1 k2 k3 k7 P hp
  by_cases hd : b.toInt < 0 ∨ 5 < b.toInt
  · have ne : ∀ k : Int32, ¬ (k.toInt < 0 ∨ 5 < k.toInt) → b ≠ k := fun k q e => q (e ▸ hd)
    exact red (-2000000000) (fun P hp => ⟨fun _ => hp, fun q => absurd q (ne 0 (by decide)), fun q => absurd q (ne 1 (by decide)), fun q => absurd q (ne 2 (by decide)), fun q => absurd q (ne 3 (by decide)), fun q => absurd q (ne 4 (by decide)), fun q => absurd q (ne 5 (by decide))⟩) (fun P hp => ⟨fun _ => hp, fun q => absurd q (ne 0 (by decide)), fun q => absurd q (ne 1 (by decide)), fun q => absurd q (ne 2 (by decide)), fun q => absurd q (ne 3 (by decide)), fun q => absurd q (ne 4 (by decide)), fun q => absurd q (ne 5 (by decide))⟩)
  · rcases jj_sw_0_5 b hd with rfl | rfl | rfl | rfl | rfl | rfl
    · refine red (nI (k / 8)) (fun P hp => ?_) (fun P hp => ?_)
      · have := cell (fun r2 => P (r2 / 8)) (by rw [e8]; exact hp); simp [vc_X6_fact, this]
      · rw [t1, k4, e8]; simp [i2, hp]
    · refine red (nI (k % 8)) (fun P hp => ?_) (fun P hp => ?_)
      · have := cell (fun r2 => P (r2 - r2 / 8 * 8)) (by rw [er8]; exact hp); simp [vc_X6_fact, this]
      · rw [t1, k4, er8]; simp [i2, hp]
    · refine red (gR 42 l) (fun P hp => ?_) (fun P hp => ?_)
      · simp [vc_X6_fact, i4, t1, k8, hp]
      · rw [t1]; simp [i2, hp]
    · refine red (nI f) (fun P hp => ?_) (fun P hp => ?_)
      · simp [vc_X6_fact, i3, t1, k7, e6, er7, hp]
      · rw [t1, k5]; simp [i2, hp]
    · refine red (nI t) (fun P hp => ?_) (fun P hp => ?_)
      · simp [vc_X6_fact, i3, t1, k7, er6, hp]
      · rw [t1, k6]; simp [i2, hp]
    · obtain ⟨j, j1, j2, j3, j4⟩ := place_of (g := gC) (l := l) l9 l10 l11 (fun x hx => by have := ((wl_mem _ _ _).mp hx).1; omega) (by omega)
      rw [wl_mem] at j2
      rcases k9 with q | q
      · refine red 0 (fun P hp => ?_) (fun P hp => ?_)
        · have hj : ¬ j < (b_wl (gR 45) S).length := fun w => absurd (j2.mp w).2 (by rw [q]; decide)
          have := j4 (fun r4 => (gC.2.2 41 0 ≤ r4 → P 0) ∧ (¬ gC.2.2 41 0 ≤ r4 → P 1)) (by rw [l10]; exact ⟨fun _ => hp, fun w => absurd (nI_le (by omega) (by omega)) w⟩)
          simp only [vc_X6_fact, this]; simp
        · rw [t1, q]; simp [i2, hp]
      · refine red 1 (fun P hp => ?_) (fun P hp => ?_)
        · have hj := j2.mpr ⟨hl, q⟩
          have := j4 (fun r4 => (gC.2.2 41 0 ≤ r4 → P 0) ∧ (¬ gC.2.2 41 0 ≤ r4 → P 1)) (by rw [l10]; exact ⟨fun w => absurd w (nI_ge hj (by omega)), fun _ => hp⟩)
          simp only [vc_X6_fact, this]; simp
        · rw [t1, q]; simp [i2, hp]
