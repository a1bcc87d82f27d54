/-! cut: what a module adds, what may be; the class -/
def k_sz (r : jm_M) (k : Nat) : Nat := q_v (r 2 k)
def k_ok (r : jm_M) (most : Nat) (p : Nat → Nat) (m x : Nat) : Prop := sS (fun k => if p k = x then k_sz r k else 0) m + k_sz r m ≤ most ∧ ∀ k, k < m → (r 32 (10 * k + m) = 1 → p k = x) ∧ (r 32 (10 * k + m) = 2 → p k ≠ x)
theorem k_ok_ho (r : jm_M) (most : Nat) : k_ho (k_ok r most) := by
  intro p q m x y h
  have e : sS (fun k => if p k = x then k_sz r k else 0) m = sS (fun k => if q k = y then k_sz r k else 0) m := sS_ext m (fun k hk => by
    by_cases w : p k = x
    · rw [if_pos w, if_pos ((h k hk).mp w)]
    · rw [if_neg w, if_neg (fun u => w ((h k hk).mpr u))])
  unfold k_ok
  rw [e]
  refine ⟨fun w => ⟨w.1, fun k hk => ⟨fun u => (h k hk).mp ((w.2 k hk).1 u), fun u v => (w.2 k hk).2 u ((h k hk).mpr v)⟩⟩, fun w => ⟨w.1, fun k hk => ⟨fun u => (h k hk).mpr ((w.2 k hk).1 u), fun u v => (w.2 k hk).2 u ((h k hk).mp v)⟩⟩⟩
theorem mn_up (z : Nat) (p : Nat → Nat) (n : Nat) : q_mn z p n ≤ q_mn z p (n + 1) := by
  rcases Classical.em (q_nw z p n) with w | w
  · rw [mn_yes w]; omega
  · rw [mn_no w]; exact Nat.le_refl _
theorem sS_mono {f g : Nat → Nat} : ∀ n, (∀ i, i < n → f i ≤ g i) → sS f n ≤ sS g n
  | 0, _ => Nat.le_refl _
  | n + 1, h => by
    show sS f n + f n ≤ sS g n + g n
    have h1 := sS_mono n (fun i hi => h i (by omega))
    have h2 := h n (Nat.lt_succ_self n)
    omega
theorem k_pr_hp (r : jm_M) (T : Nat) : k_hp (q_pr r T) := by
  refine ⟨fun p q n h => pr_ext r T n h, fun p n => ?_⟩
  unfold q_pr q_ps
  rw [pe_add]
  have : sS (fun z => q_v (r 31 3) * q_v (r 27 z) * (q_mn z p n - 1)) 1024 ≤ sS (fun z => q_v (r 31 3) * q_v (r 27 z) * (q_mn z p (n + 1) - 1)) 1024 := sS_mono 1024 (fun z _ => Nat.mul_le_mul_left _ (by have := mn_up z p n; omega))
  omega
theorem ad5 {M T m rr y : Nat} {g : cm_M} {r : jm_M} {p : Nat → Nat} (hM : M ≤ 10) (hm : m < M) (hi0 : q_inv M (g.2.1 0) (q_E r T)) (hy : y < 2 ^ 31) (hyb : ∀ j, y.testBit j = true ↔ j < m ∧ p j = rr) (K Post : Int64 → Prop) (hK : K (lN (q_ae r T (rg_st p m rr) m))) : ∀ d i, i + d = m → vc_X7_added_5 (nI m) (nI y) g K Post (d + 1) (lN (sS (fun b => if rg_st p m rr m = rg_st p m rr b then 0 else q_E r T m b + q_E r T b m) i)) (nI i)
  | 0, i, hi => by
    obtain rfl : i = m := by omega
    unfold vc_X7_added_5
    exact ⟨fun _ => hK, fun w => absurd (nI_le (Nat.le_refl _) (by omega)) w⟩
  | d + 1, i, hi => by
    have ix : nI m * 10 + nI i = nI (10 * m + i) := ij' (k := 10) (by omega)
    have tx : (nI (10 * m + i)).toNatClampNeg = 10 * m + i := tn_nI (by omega)
    have main := ad5 hM hm hi0 hy hyb K Post hK d (i + 1) (by omega)
    have es : sS (fun b => if rg_st p m rr m = rg_st p m rr b then 0 else q_E r T m b + q_E r T b m) (i + 1) = sS (fun b => if rg_st p m rr m = rg_st p m rr b then 0 else q_E r T m b + q_E r T b m) i + (if rg_st p m rr m = rg_st p m rr i then 0 else q_E r T m i + q_E r T i m) := rfl
    have e' : rg_st p m rr m = rg_st p m rr i ↔ rr = p i := by rw [st_s, st_n p (show i ≠ m by omega)]
    have eb := nI_bit (n := y) (i := i) hy (by omega)
    have hb := hyb i
    unfold vc_X7_added_5
    rw [eb, ix, tx, hi0 m i hm (by omega) (by omega), nI_1]
    refine ⟨fun w => absurd w (nI_ge (by omega) (by omega)), fun _ => ⟨fun w => ?_, fun w => ⟨vp_in_nI (by omega) (by omega), nm_e ?_⟩⟩⟩
    · have e : p i = rr := (hb.mp (by cases h : y.testBit i with | true => rfl | false => exact absurd h w)).2
      rw [es, if_pos (e'.mpr e.symm), Nat.add_zero] at main
      exact main
    · have e : ¬ rr = p i := fun u => by
        have := hb.mpr ⟨by omega, u.symm⟩
        rw [w] at this
        exact absurd this (by decide)
      rw [es, if_neg (fun u => e (e'.mp u))] at main
      rw [lN_add]
      exact main
theorem ad51 {B m rr y : Nat} {g : cm_M} {p : Nat → Nat} {w3 : Nat} (hB : B ≤ 512) (hm : m < 10) (hw : g.2.1 1 0 = lN w3) {K : Nat} (c36 : g.2.2 36 0 = nI K) (hK0 : K ≤ g.1.2.1 0) (hn : g.1.2.1 0 ≤ 1024) (hn1 : g.1.2.1 1 = g.1.2.1 0) (hz : ∀ i, i < K → ∃ z y : Nat, z < 1024 ∧ g.2.2 34 i = nI z ∧ y ≤ B ∧ g.2.2 35 i = nI y) (hy : y < 2 ^ 31) (hyb : ∀ j, y.testBit j = true ↔ j < m ∧ p j = rr) (X : Nat) (Post : Int64 → Prop) (hP : Post (lN (X + sS (fun i => q_v (g.2.2 35 i) * w3 * oc (q_nw (q_v (g.2.2 34 i)) (rg_st p m rr) m ∧ ∃ n, n < m ∧ (q_v (g.2.2 34 i)).testBit n = true) 1 0) K))) : ∀ d i, i + d = K → vc_X7_added_51 (nI m) (nI y) (nI (2 ^ m - 1)) g Post (d + 1) (lN (X + sS (fun i => q_v (g.2.2 35 i) * w3 * oc (q_nw (q_v (g.2.2 34 i)) (rg_st p m rr) m ∧ ∃ n, n < m ∧ (q_v (g.2.2 34 i)).testBit n = true) 1 0) i)) (nI i)
  | 0, i, hi => by
    obtain rfl : i = K := by omega
    unfold vc_X7_added_51
    rw [c36]
    exact ⟨fun _ => hP, fun w => absurd (nI_le (Nat.le_refl _) (by omega)) w⟩
  | d + 1, i, hi => by
    obtain ⟨z, a, h1, h2, h3, h4⟩ := hz i (by omega)
    have main := ad51 hB hm hw c36 hK0 hn hn1 hz hy hyb X Post hP d (i + 1) (by omega)
    have es : sS (fun i => q_v (g.2.2 35 i) * w3 * oc (q_nw (q_v (g.2.2 34 i)) (rg_st p m rr) m ∧ ∃ n, n < m ∧ (q_v (g.2.2 34 i)).testBit n = true) 1 0) (i + 1) = sS (fun i => q_v (g.2.2 35 i) * w3 * oc (q_nw (q_v (g.2.2 34 i)) (rg_st p m rr) m ∧ ∃ n, n < m ∧ (q_v (g.2.2 34 i)).testBit n = true) 1 0) i + a * w3 * oc (q_nw z (rg_st p m rr) m ∧ ∃ n, n < m ∧ z.testBit n = true) 1 0 := by
      show _ + q_v (g.2.2 35 i) * w3 * oc (q_nw (q_v (g.2.2 34 i)) (rg_st p m rr) m ∧ ∃ n, n < m ∧ (q_v (g.2.2 34 i)).testBit n = true) 1 0 = _
      rw [h2, h4, v_nI (by omega), v_nI (by omega)]
    have hp2 : 2 ^ m ≤ 2 ^ 10 := Nat.pow_le_pow_right (by omega) (by omega)
    have e1 := nI_bit (n := z) (i := m) (by omega) (by omega)
    have e2 := nI_and0 (n := y) (a := z) hy
    have e3 := nI_and0 (n := 2 ^ m - 1) (a := z) (by omega)
    have nw : q_nw z (rg_st p m rr) m ↔ z.testBit m = true ∧ ∀ j, z.testBit j = true → y.testBit j = true → False := by
      unfold q_nw
      rw [st_s]
      refine ⟨fun w => ⟨w.1, fun j q1 q2 => ?_⟩, fun w => ⟨w.1, fun j hj q1 q2 => ?_⟩⟩
      · obtain ⟨u1, u2⟩ := (hyb j).mp q2
        have := w.2 j u1 q1
        rw [st_n _ (by omega)] at this
        exact this u2
      · rw [st_n _ (by omega)] at q2
        exact w.2 j q1 ((hyb j).mpr ⟨hj, q2⟩)
    have ah : (∃ n, n < m ∧ z.testBit n = true) ↔ ¬ ∀ j, z.testBit j = true → (2 ^ m - 1).testBit j = true → False := by
      refine ⟨fun ⟨n, n1, n2⟩ w => w n n2 (all_bit n1), fun w => ?_⟩
      rcases Classical.em (∃ n, n < m ∧ z.testBit n = true) with u | u
      · exact u
      · exact absurd (fun j q1 q2 => u ⟨j, by rw [Nat.testBit_two_pow_sub_one] at q2; exact of_decide_eq_true q2, q1⟩) w
    have skip : ¬ (q_nw z (rg_st p m rr) m ∧ ∃ n, n < m ∧ z.testBit n = true) → vc_X7_added_51 (nI m) (nI y) (nI (2 ^ m - 1)) g Post (d + 1) (lN (X + sS (fun i => q_v (g.2.2 35 i) * w3 * oc (q_nw (q_v (g.2.2 34 i)) (rg_st p m rr) m ∧ ∃ n, n < m ∧ (q_v (g.2.2 34 i)).testBit n = true) 1 0) i)) (nI (i + 1)) := fun w => by
      rw [es, oc_n w, Nat.mul_zero, Nat.add_zero] at main
      exact main
    unfold vc_X7_added_51
    rw [c36, tn_nI (by omega), h2]
    refine ⟨fun w => absurd w (nI_ge (by omega) (by omega)), fun _ => ⟨vp_in_nI (by omega) (by omega), nm_e ?_⟩⟩
    rw [e1, e2, e3, h4, hw, nI_l (by omega), lN_mul, lN_add, nI_1]
    refine ⟨fun w => skip (fun u => ?_), fun w => ⟨fun w2 => skip (fun u => w2 (nw.mp u.1).2), fun w2 => ⟨fun w3' => skip (fun u => ah.mp u.2 w3'), fun w3' => ⟨vp_in_nI (by omega) (by omega), nm_e ?_⟩⟩⟩⟩
    · rw [u.1.1] at w; exact absurd w (by decide)
    · have tb : z.testBit m = true := by cases h : z.testBit m with | true => rfl | false => exact absurd h w
      rw [es, oc_y ⟨nw.mpr ⟨tb, w2⟩, ah.mpr w3'⟩, Nat.mul_one, ← Nat.add_assoc] at main
      exact main
theorem ad_of {B M T m rr y : Nat} {g : cm_M} {r : jm_M} {p : Nat → Nat} (hB : B ≤ 512) (hM : M ≤ 10) (hm : m < M) (hi0 : q_inv M (g.2.1 0) (q_E r T)) (hw : g.2.1 1 0 = lN (q_v (r 31 3))) (hS : b_S B g.1.2.1 g.2.2 r) (hy : y < 2 ^ 31) (hyb : ∀ j, y.testBit j = true ↔ j < m ∧ p j = rr) (P : Int64 → Prop) (hP : ∀ x : Nat, q_pr r T (rg_st p m rr) (m + 1) = q_pr r T p m + x → P (lN x)) : vc_X7_added (nI m) (nI y) g P := by
  obtain ⟨K, k1, k2, k3, k4, k5, k6⟩ := ps_of hS hB (rg_st p m rr) (m + 1)
  obtain ⟨K2, k1', k2', k3', k4', k5', k6'⟩ := ps_of hS hB (rg_st p m rr) m
  obtain rfl : K2 = K := (nI_eq (by omega) (by omega)).mp (k1'.symm.trans k1)
  have es : q_ps r (rg_st p m rr) (m + 1) = q_ps r (rg_st p m rr) m + sS (fun i => q_v (g.2.2 35 i) * q_v (r 31 3) * oc (q_nw (q_v (g.2.2 34 i)) (rg_st p m rr) m ∧ ∃ n, n < m ∧ (q_v (g.2.2 34 i)).testBit n = true) 1 0) K2 := by
    rw [k6, k6', ← sS_add]
    refine sS_ext K2 (fun i _ => ?_)
    rw [← Nat.mul_add, mn_step]
    rfl
  have ep : q_pr r T (rg_st p m rr) m = q_pr r T p m := pr_ext r T m (fun a b ha hb => by rw [st_n _ (by omega), st_n _ (by omega)])
  have fin := hP (q_ae r T (rg_st p m rr) m + sS (fun i => q_v (g.2.2 35 i) * q_v (r 31 3) * oc (q_nw (q_v (g.2.2 34 i)) (rg_st p m rr) m ∧ ∃ n, n < m ∧ (q_v (g.2.2 34 i)).testBit n = true) 1 0) K2) (by
    rw [← ep]
    unfold q_pr
    rw [pe_add, es]; omega)
  have hsh : (1 : Int32) <<< (nI m &&& 31) - 1 = nI (2 ^ m - 1) := by
    rw [nI_shl1 (by omega)]
    have := Nat.two_pow_pos m
    obtain ⟨k, hk⟩ : ∃ k, 2 ^ m = k + 1 := ⟨2 ^ m - 1, by omega⟩
    rw [hk, nI_pred]; rfl
  refine ⟨m + 1, ad5 hM hm hi0 hy hyb _ P ?_ m 0 (by omega)⟩
  rw [hsh]
  refine nm_e ⟨K2 + 1, ?_⟩
  exact ad51 hB (by omega) hw k1 k2 k3 k4 k5 hy hyb _ P fin K2 0 (by omega)
