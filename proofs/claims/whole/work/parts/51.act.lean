theorem m3_le {k k2 : Nat} {Q : List Nat} {c r : jm_M} (h : b_m3 k Q c r) (hk : k ≤ k2) : b_m3 k2 Q c r := ⟨Nat.le_trans h.1 hk, h.2⟩
def b_kont (P : Int32 → cm_M → Prop) : cm_M → Prop := fun g12 => vc_X0_leaveEnded g12 (fun (g14 : cm_M) => ((¬ (g14.2.2 23 0) = 0) → (P 0 g14)) ∧ (((g14.2.2 23 0) = 0) → (P 1 g14)))
theorem go_act {M T N : Nat} {h : Nat → Int32} {gd : cm_D} {gj : cm_J} {c0 r0 : jm_M} (hM : M ≤ 10) (hT16 : T ≤ 16) (hN : N ≤ 40) (hX : b_X M T N r0) (e6 : c0 6 = r0 6) (e7 : c0 7 = r0 7) (e8 : c0 8 = r0 8) (e9 : c0 9 = r0 9) (e10 : c0 10 = r0 10) : ∀ (d k : Nat) (c r : jm_M) (W Q : List Nat) (D : Nat), k + d = 300 → b_M T N h W Q D k c r → ∃ (x : Int32) (c' r' : jm_M), ((x = 1 ∧ ∃ W' Q' : List Nat, b_M T N h W' Q' 0 300 c' r') ∨ (x = 0 ∧ b_AK c')) ∧ (∃ n, ∀ kk (P : Int32 → cm_M → Prop), P x (b_c gd gj c0 c') → vc_X0_perform_16 kk (b_kont P) P n (nI k) (b_c gd gj c0 c)) ∧ (∃ n, ∀ kk (P : Int32 → jm_M → Prop), P x (jm_o r0 r' 13 22) → vr_works_123 kk P n (nI D) (nI k) (jm_o r0 r 13 22)) := by
  have hz : ∀ i, i < N → ∃ z : Nat, z ≤ 16 ∧ r0 7 i = nI z := fun i hi => by
    obtain ⟨z, hz, ez, -⟩ := hX.2.2.2.1 i hi
    exact ⟨z, hz, ez⟩
  have n0 : ∀ n, ¬ nI (n + 1) = 0 ∨ 2 ^ 31 ≤ n + 1 := fun n => by
    rcases Nat.lt_or_ge (n + 1) (2 ^ 31) with q | q
    · exact Or.inl (nI_ne0 (by omega) q)
    · exact Or.inr q
  intro d
  induction d with
  | zero =>
    intro k c r W Q D hk hm
    obtain rfl : k = 300 := by omega
    obtain ⟨m1, m2, m3, m4, m5⟩ := id hm
    obtain ⟨D2, d1, d2, d3, mm, d4⟩ := pop_c (gd := gd) (gj := gj) hN m4 e7 hz
    have e23 : (b_c gd gj c0 (jm_s c 23 (nI D2))).2.2 23 0 = nI D2 := rfl
    rcases d2 with rfl | ⟨D1, i, n, z, rfl, hi, ez, hz16, hn, c19, r20, c20, r21⟩
    · refine ⟨1, jm_s c 23 (nI 0), r, Or.inl ⟨rfl, W, Q, m1, m2, m3, ⟨by omega, rfl, fun j hj => absurd hj (Nat.not_lt_zero j)⟩, m5⟩, ⟨1, fun kk P hp => ⟨fun _ => d3 _ ⟨fun w => absurd rfl w, fun _ => hp⟩, fun w => absurd (by decide) w⟩⟩, 1 + mm, fun kk P hp => d4 1 kk P 300 ⟨fun _ => hp, fun w => absurd (by decide) w⟩⟩
    · have hD : D1 + 1 ≤ 8 := by have := m4.1; omega
      have tD : (nI D1).toNatClampNeg = D1 := tn_nI (by omega)
      have ti : (nI i).toNatClampNeg = i := tn_nI (by omega)
      have iD : vp_in (nI D1) 8 := vp_in_nI (by omega) (by omega)
      refine ⟨0, jm_s c 23 (nI (D1 + 1)), r, Or.inr ⟨rfl, m2_AK (r := r) hT16 m2⟩, ⟨1, fun kk P hp => ⟨fun _ => d3 _ ⟨fun _ => hp, fun w => absurd w (nI_ne0 (by omega) (by omega))⟩, fun w => absurd (by decide) w⟩⟩, 1 + mm, fun kk P hp => d4 1 kk P 300 ?_⟩
      unfold vr_works_123
      have f20 : jm_o r0 r 13 22 20 D1 = nI i := r20
      have f21 : jm_o r0 r 13 22 21 D1 = nI n := r21
      have f7 : jm_o r0 r 13 22 7 i = nI z := ez
      rw [nI_pred, tD, f20, f21]
      refine ⟨fun w => absurd w (nI_nle (by omega) (by omega)), fun _ => ⟨iD, nm_e ⟨iD, vp_in_nI (by omega) (by omega), ?_⟩⟩⟩
      rw [ti, f7]
      exact ⟨fun _ => ⟨fun w => absurd rfl w, fun _ => hp⟩, fun w => absurd (nI_lt hn (by omega)) w⟩
  | succ d ih =>
    intro k c r W Q D hk hm
    obtain ⟨m1, m2, m3, m4, m5⟩ := id hm
    obtain ⟨D2, d1, d2, d3, mm, d4⟩ := pop_c (gd := gd) (gj := gj) hN m4 e7 hz
    have e23 : (b_c gd gj c0 (jm_s c 23 (nI D2))).2.2 23 0 = nI D2 := rfl
    have h300 : ¬ 300 ≤ nI k := nI_ge (b := 300) (by omega) (by omega)
    rcases d2 with rfl | ⟨D1, i, n, z, rfl, hi, ez, hz16, hn, c19, r20, c20, r21⟩
    · refine ⟨1, jm_s c 23 (nI 0), r, Or.inl ⟨rfl, W, Q, m1, m2, m3_le m3 (by omega), ⟨by omega, rfl, fun j hj => absurd hj (Nat.not_lt_zero j)⟩, m5⟩, ⟨1, fun kk P hp => ⟨fun w => absurd w h300, fun _ => d3 _ ⟨fun w => absurd rfl w, fun _ => hp⟩⟩⟩, 1 + mm, fun kk P hp => d4 1 kk P k ⟨fun _ => hp, fun w => absurd (by decide) w⟩⟩
    · have hD : D1 + 1 ≤ 8 := by have := m4.1; omega
      have hm2 : b_M T N h W Q (D1 + 1) k (jm_s c 23 (nI (D1 + 1))) r := ⟨m1, m2, m3, ⟨hD, rfl, fun j hj => m4.2.2 j (by omega)⟩, m5⟩
      rcases step_act (gd := gd) (gj := gj) (c0 := c0) hM hT16 hN hX e6 e8 e9 e10 (by omega) hm2 hi ez hz16 hn c19 r20 c20 r21 with ⟨c', r', s1, s2, s3⟩ | ⟨W', Q', D', c', r', s1, s2, s3⟩
      · refine ⟨0, c', r', Or.inr ⟨rfl, s1⟩, ⟨1, fun kk P hp => ⟨fun w => absurd w h300, fun _ => d3 _ ⟨fun _ => s2 _ ⟨fun w => absurd rfl w, fun _ => hp⟩, fun w => absurd w (nI_ne0 (by omega) (by omega))⟩⟩⟩, 1 + mm, fun kk P hp => d4 1 kk P k (s3 0 kk P hp)⟩
      · obtain ⟨x, c2, r2, a1, ⟨n1, a2⟩, n2, a3⟩ := ih (k + 1) c' r' W' Q' D' (by omega) s1
        refine ⟨x, c2, r2, a1, ⟨n1 + 1, fun kk P hp => ⟨fun w => absurd w h300, fun _ => d3 _ ⟨fun _ => s2 _ ⟨fun _ => ?_, fun w => absurd w (by decide)⟩, fun w => absurd w (nI_ne0 (by omega) (by omega))⟩⟩⟩, n2 + 1 + mm, fun kk P hp => d4 (n2 + 1) kk P k (s3 n2 kk P (a3 kk P hp))⟩
        rw [nI_1]; exact a2 kk P hp
theorem jo_same (g : jm_M) (lo hi : Nat) : jm_o g g lo hi = g := by
  funext k
  by_cases w : k < lo ∨ hi < k
  · exact jm_o_out _ _ w
  · exact jm_o_in _ _ (by omega) (by omega)
theorem bc_u (gd : cm_D) (gj : cm_J) (c0 c : jm_M) {k : Nat} (f : Nat → Int32) (h1 : 15 ≤ k) (h2 : k ≤ 24) : cm_u (b_c gd gj c0 c) k f = b_c gd gj c0 (jm_u c k f) := by
  unfold cm_u b_c; rw [jm_o_u _ _ _ h1 h2]
/-- class: an act begins -/
theorem begin_c {gd : cm_D} {gj : cm_J} {c0 : jm_M} {kk : Nat} (hkk : kk = 25 ∨ kk = 26) (hA : b_AK c0) (a : Int32) (i : Nat) (hi : i < 40) : ∃ c : jm_M, (∀ j, j < 128 → c 15 j = c0 kk j) ∧ (∀ z, z < 128 → c 16 z = 0) ∧ c 21 0 = 0 ∧ c 22 0 = 0 ∧ c 23 0 = nI 1 ∧ c 24 0 = a ∧ c 19 0 = nI i ∧ c 20 0 = nI 0 ∧ ∀ (P : Int32 → cm_M → Prop), (∃ n16 : Nat, vc_X0_perform_16 kk (b_kont P) P n16 0 (b_c gd gj c0 c)) → vc_X0_perform kk (nI i) a (gd, gj, c0) P := by
  obtain ⟨K, k1, k2, k3, k4⟩ := hA
  obtain ⟨c1, hc1⟩ : ∃ c1, c1 = jm_u c0 15 (va_cpy (c0 kk) (c0 15) 0 0 128) := ⟨_, rfl⟩
  have e21 : c1 21 0 = nI K := by rw [hc1]; exact k2
  have e17 : ∀ i, i < K → ∃ z : Nat, z < 128 ∧ c1 17 i = nI z := by rw [hc1]; exact k3
  -- the loop has one outcome, whatever follows: name it by the row that it leaves
  have key : ∃ u : Nat → Int32, (∀ z, z < 128 → u z = 0) ∧ ∀ (KK Post : cm_M → Prop), KK (b_c gd gj c0 (jm_u c1 16 u)) → ∃ n, vc_X0_begin_15 kk a KK Post n 0 (b_c gd gj c0 c1) := by
    have main : ∀ d i (u : Nat → Int32), i + d = K → (∀ z, z < 128 → (∀ j, i ≤ j → j < K → c1 17 j ≠ nI z) → u z = 0) → ∃ u' : Nat → Int32, (∀ z, z < 128 → u' z = 0) ∧ ∀ (KK Post : cm_M → Prop), KK (b_c gd gj c0 (jm_u c1 16 u')) → vc_X0_begin_15 kk a KK Post (d + 1) (nI i) (b_c gd gj c0 (jm_u c1 16 u)) := by
      intro d
      induction d with
      | zero =>
        intro i u hi hu
        obtain rfl : i = K := by omega
        have f21 : (b_c gd gj c0 (jm_u c1 16 u)).2.2 21 0 = nI i := e21
        refine ⟨u, fun z hz => hu z hz (fun j h1 h2 => absurd h2 (by omega)), fun KK Post hp => ?_⟩
        unfold vc_X0_begin_15
        rw [f21]
        exact ⟨fun _ => hp, fun w => absurd (nI_le (Nat.le_refl _) (by omega)) w⟩
      | succ d ih =>
        intro i u hi hu
        have f21 : (b_c gd gj c0 (jm_u c1 16 u)).2.2 21 0 = nI K := e21
        obtain ⟨z, hz, ez⟩ := e17 i (by omega)
        have t1 : (nI i).toNatClampNeg = i := tn_nI (by omega)
        have tz : (nI z).toNatClampNeg = z := tn_nI (by omega)
        have f17 : (b_c gd gj c0 (jm_u c1 16 u)).2.2 17 i = nI z := ez
        obtain ⟨u', h1, h2⟩ := ih (i + 1) (upd u z 0) (by omega) (fun z2 hz2 hq => by
          by_cases q : z2 = z
          · subst q; rw [pk_us]
          · rw [pk_un q]
            refine hu z2 hz2 (fun j h1 h2 => ?_)
            by_cases w : j = i
            · subst w; rw [ez]; exact fun w => q ((nI_eq (by omega) (by omega)).mp w).symm
            · exact hq j (by omega) h2)
        refine ⟨u', h1, fun KK Post hp => ?_⟩
        unfold vc_X0_begin_15
        rw [f21, t1, f17]
        refine ⟨fun w => absurd w (nI_ge (by omega) (by omega)), fun _ => ⟨vp_in_nI (by omega) (by omega), vp_in_nI hz (by omega), nm_e ?_⟩⟩
        rw [bc_a _ _ _ _ _ _ (by omega) (by omega), nI_1]
        have e : jm_a (jm_u c1 16 u) 16 (nI z) 0 = jm_u c1 16 (upd u z 0) := by
          show jm_u (jm_u c1 16 u) 16 (upd u (nI z).toNatClampNeg 0) = _
          rw [jm_uu, tz]
        rw [e]
        exact h2 KK Post hp
    obtain ⟨u', h1, h2⟩ := main K 0 (c1 16) (by omega) (fun z hz hq => by
      have : c1 16 = c0 16 := by rw [hc1]; rfl
      rw [this]
      refine k4 z hz (fun j hj => ?_)
      have := hq j (Nat.zero_le j) hj
      rw [hc1] at this
      exact this)
    refine ⟨u', h1, fun KK Post hp => ⟨K + 1, ?_⟩⟩
    have := h2 KK Post hp
    rw [jm_u0] at this
    exact this
  obtain ⟨u, hu, main⟩ := key
  have ti : (nI i).toNatClampNeg = i := tn_nI (by omega)
  refine ⟨jm_s (jm_a (jm_a (jm_s (jm_s (jm_s (jm_s (jm_u c1 16 u) 21 0) 22 0) 23 0) 24 a) 19 0 (nI i)) 20 0 0) 23 (nI 1), fun j hj => ?_, hu, rfl, rfl, rfl, rfl, rfl, rfl, fun P hv => ?_⟩
  · show c1 15 j = c0 kk j
    rw [hc1]
    show va_cpy (c0 kk) (c0 15) 0 0 128 j = c0 kk j
    rw [pk_cpy_in (Nat.zero_le j) (by omega), Nat.zero_add, Nat.sub_zero]
  · unfold vc_X0_perform vc_X0_begin
    refine nm_e ?_
    have e0 : (gd, gj, c0) = b_c gd gj c0 c0 := by unfold b_c; rw [jo_same]
    have e1 : cm_u (gd, gj, c0) 15 (va_cpy (((gd, gj, c0) : cm_M).2.2 kk) (((gd, gj, c0) : cm_M).2.2 15) 0 0 128) = b_c gd gj c0 c1 := by
      rw [e0, bc_u _ _ _ _ _ (by omega) (by omega), hc1]
      have : (b_c gd gj c0 c0).2.2 = c0 := by unfold b_c; rw [jo_same]
      rw [this]
    rw [e1]
    refine main _ _ (nm_e (nm_e (nm_e (nm_e ?_))))
    rw [bc_s _ _ _ _ _ (by omega) (by omega), bc_s _ _ _ _ _ (by omega) (by omega), bc_s _ _ _ _ _ (by omega) (by omega), bc_s _ _ _ _ _ (by omega) (by omega)]
    unfold vc_X0_enter
    have f23 : (b_c gd gj c0 (jm_s (jm_s (jm_s (jm_s (jm_u c1 16 u) 21 0) 22 0) 23 0) 24 a)).2.2 23 0 = 0 := rfl
    have i08 : vp_in 0 8 := vp_in_nI (n := 0) (by omega) (by omega)
    rw [f23]
    refine ⟨fun _ => ⟨i08, nm_e ?_⟩, fun w => absurd (by decide) w⟩
    rw [bc_a _ _ _ _ _ _ (by omega) (by omega)]
    have f23b : (b_c gd gj c0 (jm_a (jm_s (jm_s (jm_s (jm_s (jm_u c1 16 u) 21 0) 22 0) 23 0) 24 a) 19 0 (nI i))).2.2 23 0 = 0 := rfl
    rw [f23b]
    refine ⟨i08, nm_e (nm_e ?_)⟩
    rw [bc_a _ _ _ _ _ _ (by omega) (by omega)]
    have f23c : (b_c gd gj c0 (jm_a (jm_a (jm_s (jm_s (jm_s (jm_s (jm_u c1 16 u) 21 0) 22 0) 23 0) 24 a) 19 0 (nI i)) 20 0 0)).2.2 23 0 = 0 := rfl
    rw [f23c, bc_s _ _ _ _ _ (by omega) (by omega)]
    exact hv
