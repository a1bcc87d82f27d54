/-! the reference's price -/
def q_ok (M T : Nat) (r : jm_M) : Prop := M ≤ 10 ∧ T ≤ 16 ∧ r 3 0 = nI T ∧ (∀ i, i < T → q_v (r 4 i) < M ∧ r 4 i = nI (q_v (r 4 i))) ∧ (∀ i, i < 4 → q_v (r 31 i) ≤ 99 ∧ r 31 i = nI (q_v (r 31 i))) ∧ (∀ i, i < 100 → q_v (r 24 i) ≤ 200000 ∧ r 24 i = nI (q_v (r 24 i))) ∧ (∀ i, i < 160 → q_v (r 25 i) ≤ 200000 ∧ r 25 i = nI (q_v (r 25 i))) ∧ (∀ i, i < 160 → q_v (r 26 i) ≤ 200000 ∧ r 26 i = nI (q_v (r 26 i))) ∧ (∀ z, 0 < z → z < 1024 → q_v (r 27 z) ≤ 1000 ∧ r 27 z = nI (q_v (r 27 z)))
theorem v_nI {z : Nat} (h : z < 2 ^ 31) : q_v (nI z) = z := tn_nI h
theorem v_of {x : Int32} {b : Nat} (hb : b < 2 ^ 31) (h : ∃ z : Nat, z ≤ b ∧ x = nI z) : q_v x ≤ b ∧ x = nI (q_v x) := by
  obtain ⟨z, hz, rfl⟩ := h
  rw [v_nI (by omega)]; exact ⟨hz, rfl⟩
theorem q_ok_of {B M T N : Nat} {n : Nat → Nat} {c r : jm_M} (hB : B ≤ 512) (hT : b_T M T N c r) (hX : b_X M T N r) (hH : b_H B T n c r) (hP : b_P M c r) : q_ok M T r := by
  obtain ⟨hM, hT16, hN, c12, r1, c13, r3, c14, r5, e4⟩ := hT
  obtain ⟨hy, hr, ⟨k1, k2, k3, k4⟩, hu, ⟨K, e, s1, s2, s3, s4, s5, s6, s7, s8⟩, hL⟩ := hH
  have cv : ∀ i, i < 420 → q_v (c 28 i) ≤ 200000 ∧ c 28 i = nI (q_v (c 28 i)) := fun i hi => by
    obtain ⟨z, hz, ez⟩ := k4 i hi
    exact v_of (by omega) ⟨z, by omega, ez⟩
  refine ⟨hM, hT16, r3, fun i hi => ?_, fun i hi => v_of (by omega) (hP.2.1 i hi), fun i hi => ?_, fun i hi => ?_, fun i hi => ?_, fun z hz hz2 => ?_⟩
  · obtain ⟨h, hh, eh⟩ := hX.2.1 i hi
    rw [eh, v_nI (by omega)]; exact ⟨hh, rfl⟩
  · rw [← k1 i hi]; exact cv i (by omega)
  · rw [← k2 i hi]; exact cv (100 + i) (by omega)
  · rw [← k3 i hi]; exact cv (260 + i) (by omega)
  · rcases Classical.em (∃ i, i < K ∧ c 34 i = nI z) with ⟨i, hi, ei⟩ | q
    · obtain ⟨z2, y, a1, a2, a3, a4, a5⟩ := s6 i hi
      have ezz : z2 = z := (nI_eq (by omega) (by omega)).mp (a2.symm.trans ei)
      rw [← ezz, a5 (by omega)]
      exact v_of (by omega) ⟨y, by omega, rfl⟩
    · rw [s8 z (by omega) hz2 (fun i hi e => q ⟨i, hi, e⟩)]
      exact v_of (by omega) ⟨0, by omega, rfl⟩
theorem p14 {M T n kk a : Nat} {r : jm_M} {p : Nat → Nat} (hq : q_ok M T r) (hn : n ≤ M) (hp : ∀ a, a < n → p a < 6 ∧ r kk a = nI (p a)) (ha : a < n) (X : Nat) (K Post : Int64 → Prop) (hK : K (lN (X + sS (fun b => if p a = p b then 0 else q_ca r a b) n))) : ∀ d i, i + d = n → vr_priceOf_14 kk (nI n) (nI a) r K Post (d + 1) (lN (X + sS (fun b => if p a = p b then 0 else q_ca r a b) i)) (nI i)
  | 0, i, hi => by
    obtain rfl : i = n := by omega
    unfold vr_priceOf_14
    exact ⟨fun _ => hK, fun w => absurd (nI_le (Nat.le_refl _) (by have := hq.1; omega)) w⟩
  | d + 1, i, hi => by
    have hM := hq.1
    have ta : (nI a).toNatClampNeg = a := tn_nI (by omega)
    have ti : (nI i).toNatClampNeg = i := tn_nI (by omega)
    have ix : (10 : Int32) * nI a + nI i = nI (10 * a + i) := ij (k := 10) (by omega)
    have tx : (nI (10 * a + i)).toNatClampNeg = 10 * a + i := tn_nI (by omega)
    have main := p14 hq hn hp ha X K Post hK d (i + 1) (by omega)
    have es : sS (fun b => if p a = p b then 0 else q_ca r a b) (i + 1) = sS (fun b => if p a = p b then 0 else q_ca r a b) i + (if p a = p i then 0 else q_ca r a i) := rfl
    obtain ⟨ha6, ea⟩ := hp a ha
    obtain ⟨hi6, ei⟩ := hp i (by omega)
    obtain ⟨w1, w2⟩ := hq.2.2.2.2.1 0 (by omega)
    obtain ⟨c1, c2⟩ := hq.2.2.2.2.2.1 (10 * a + i) (by omega)
    have eo : nI (p a) = nI (p i) ↔ p a = p i := nI_eq (by omega) (by omega)
    unfold vr_priceOf_14
    rw [ta, ti, ea, ei, ix, tx, show (0 : Int32).toNatClampNeg = 0 from rfl, w2, c2, nI_l (by omega), nI_l (by omega), lN_mul, lN_add]
    refine ⟨fun w => absurd w (nI_ge (by omega) (by omega)), fun _ => ⟨vp_in_nI (by omega) (by omega), vp_in_nI (by omega) (by omega), fun w => ?_, fun w => ⟨vp_in_nI (by omega) (by omega), nm_e ?_⟩⟩⟩
    · rw [es, if_pos (eo.mp w), Nat.add_zero] at main
      rw [nI_1]; exact main
    · rw [es, if_neg (fun e => w (eo.mpr e)), ← Nat.add_assoc] at main
      rw [nI_1]; exact main
theorem p5 {M T n kk : Nat} {r : jm_M} {p : Nat → Nat} (hq : q_ok M T r) (hn : n ≤ M) (hp : ∀ a, a < n → p a < 6 ∧ r kk a = nI (p a)) (K Post : Int64 → Prop) (hK : K (lN (sS (fun a => sS (fun b => if p a = p b then 0 else q_ca r a b) n) n))) : ∀ d i, i + d = n → vr_priceOf_5 kk (nI n) r K Post (d + 1) (lN (sS (fun a => sS (fun b => if p a = p b then 0 else q_ca r a b) n) i)) (nI i)
  | 0, i, hi => by
    obtain rfl : i = n := by omega
    unfold vr_priceOf_5
    exact ⟨fun _ => hK, fun w => absurd (nI_le (Nat.le_refl _) (by have := hq.1; omega)) w⟩
  | d + 1, i, hi => by
    have hM := hq.1
    have main := p5 hq hn hp K Post hK d (i + 1) (by omega)
    unfold vr_priceOf_5
    refine ⟨fun w => absurd w (nI_ge (by omega) (by omega)), fun _ => ⟨n + 1, ?_⟩⟩
    refine p14 hq hn hp (by omega) _ _ _ ?_ n 0 (by omega)
    rw [nI_1]; exact main
theorem p80 {M T n kk a : Nat} {r : jm_M} {p : Nat → Nat} (hq : q_ok M T r) (hn : n ≤ M) (hp : ∀ a, a < n → p a < 6 ∧ r kk a = nI (p a)) (ha : a < n) (X : Nat) (K Post : Int64 → Prop) (hK : K (lN (X + sS (fun t => if n ≤ q_v (r 4 t) ∨ p a = p (q_v (r 4 t)) then 0 else q_ta r a t) T))) : ∀ d i, i + d = T → vr_priceOf_80 kk (nI n) (nI a) r K Post (d + 1) (lN (X + sS (fun t => if n ≤ q_v (r 4 t) ∨ p a = p (q_v (r 4 t)) then 0 else q_ta r a t) i)) (nI i)
  | 0, i, hi => by
    obtain rfl : i = T := by omega
    unfold vr_priceOf_80
    rw [hq.2.2.1]
    exact ⟨fun _ => hK, fun w => absurd (nI_le (Nat.le_refl _) (by have := hq.2.1; omega)) w⟩
  | d + 1, i, hi => by
    have hM := hq.1
    have hT := hq.2.1
    have ta : (nI a).toNatClampNeg = a := tn_nI (by omega)
    have ti : (nI i).toNatClampNeg = i := tn_nI (by omega)
    have ix : (16 : Int32) * nI a + nI i = nI (16 * a + i) := ij (k := 16) (by omega)
    have tx : (nI (16 * a + i)).toNatClampNeg = 16 * a + i := tn_nI (by omega)
    have main := p80 hq hn hp ha X K Post hK d (i + 1) (by omega)
    obtain ⟨h1, h2⟩ := hq.2.2.2.1 i (by omega)
    obtain ⟨h, hh⟩ : ∃ h, h = q_v (r 4 i) := ⟨_, rfl⟩
    have es : sS (fun t => if n ≤ q_v (r 4 t) ∨ p a = p (q_v (r 4 t)) then 0 else q_ta r a t) (i + 1) = sS (fun t => if n ≤ q_v (r 4 t) ∨ p a = p (q_v (r 4 t)) then 0 else q_ta r a t) i + (if n ≤ h ∨ p a = p h then 0 else q_ta r a i) := by rw [hh]; rfl
    rw [← hh] at h1 h2
    have th : (nI h).toNatClampNeg = h := tn_nI (by omega)
    obtain ⟨ha6, ea⟩ := hp a ha
    obtain ⟨w1, w2⟩ := hq.2.2.2.2.1 1 (by omega)
    obtain ⟨x1, x2⟩ := hq.2.2.2.2.1 2 (by omega)
    obtain ⟨c1, c2⟩ := hq.2.2.2.2.2.2.1 (16 * a + i) (by omega)
    obtain ⟨d1, d2⟩ := hq.2.2.2.2.2.2.2.1 (16 * a + i) (by omega)
    unfold vr_priceOf_80
    rw [hq.2.2.1, ta, ti, h2, th, ix, tx, show (1 : Int32).toNatClampNeg = 1 from rfl, show (2 : Int32).toNatClampNeg = 2 from rfl, w2, x2, c2, d2, nI_l (by omega), nI_l (by omega), nI_l (by omega), nI_l (by omega), lN_mul, lN_mul, lN_add, lN_add]
    refine ⟨fun w => absurd w (nI_ge (by omega) (by omega)), fun _ => ⟨vp_in_nI (by omega) (by omega), fun w => ?_, fun w => ?_⟩⟩
    · have w3 := (nI_leI (by omega) (by omega)).mp w
      rw [es, if_pos (Or.inl w3), Nat.add_zero] at main
      rw [nI_1]; exact main
    · have hn2 : h < n := by
        rcases Nat.lt_or_ge h n with q | q
        · exact q
        · exact absurd (nI_le q (by omega)) w
      obtain ⟨hi6, ei⟩ := hp h hn2
      have eo : nI (p a) = nI (p h) ↔ p a = p h := nI_eq (by omega) (by omega)
      rw [ea, ei]
      refine ⟨vp_in_nI (by omega) (by omega), vp_in_nI (by omega) (by omega), vp_in_nI (by omega) (by omega), fun w3 => ⟨vp_in_nI (by omega) (by omega), vp_in_nI (by omega) (by omega), nm_e ?_⟩, fun w3 => ?_⟩
      · rw [es, if_neg (fun e => by rcases e with e | e; omega; exact w3 (eo.mpr e)), ← Nat.add_assoc] at main
        rw [nI_1]; exact main
      · rw [es, if_pos (Or.inr (eo.mp w3)), Nat.add_zero] at main
        rw [nI_1]; exact main
theorem p71 {M T n kk : Nat} {r : jm_M} {p : Nat → Nat} (hq : q_ok M T r) (hn : n ≤ M) (hp : ∀ a, a < n → p a < 6 ∧ r kk a = nI (p a)) (X : Nat) (K Post : Int64 → Prop) (hK : K (lN (X + sS (fun a => sS (fun t => if n ≤ q_v (r 4 t) ∨ p a = p (q_v (r 4 t)) then 0 else q_ta r a t) T) n))) : ∀ d i, i + d = n → vr_priceOf_71 kk (nI n) r K Post (d + 1) (lN (X + sS (fun a => sS (fun t => if n ≤ q_v (r 4 t) ∨ p a = p (q_v (r 4 t)) then 0 else q_ta r a t) T) i)) (nI i)
  | 0, i, hi => by
    obtain rfl : i = n := by omega
    unfold vr_priceOf_71
    exact ⟨fun _ => hK, fun w => absurd (nI_le (Nat.le_refl _) (by have := hq.1; omega)) w⟩
  | d + 1, i, hi => by
    have hM := hq.1
    have main := p71 hq hn hp X K Post hK d (i + 1) (by omega)
    unfold vr_priceOf_71
    refine ⟨fun w => absurd w (nI_ge (by omega) (by omega)), fun _ => ⟨T + 1, ?_⟩⟩
    refine p80 hq hn hp (by omega) (X + sS (fun a => sS (fun t => if n ≤ q_v (r 4 t) ∨ p a = p (q_v (r 4 t)) then 0 else q_ta r a t) T) i) _ _ ?_ T 0 (by omega)
    rw [nI_1, Nat.add_assoc]; exact main
/-- the rooms of a set, as a mask -/
def q_in (z : Nat) (p : Nat → Nat) : Nat → Nat
  | 0 => 0
  | n + 1 => if z.testBit n = true then q_in z p n ||| 2 ^ p n else q_in z p n
theorem in_lt {z : Nat} {p : Nat → Nat} : ∀ n, (∀ a, a < n → p a < 6) → q_in z p n < 2 ^ 6
  | 0, _ => by show 0 < 2 ^ 6; omega
  | n + 1, h => by
    have ih := in_lt (z := z) n (fun a ha => h a (by omega))
    show (if z.testBit n = true then q_in z p n ||| 2 ^ p n else q_in z p n) < 2 ^ 6
    split
    · exact or_lt ih (Nat.pow_lt_pow_right (by omega) (h n (by omega)))
    · exact ih
theorem in_tb {z : Nat} {p : Nat → Nat} (k : Nat) : ∀ n, (q_in z p n).testBit k = true ↔ ∃ m, m < n ∧ z.testBit m = true ∧ p m = k
  | 0 => by
    show (0 : Nat).testBit k = true ↔ _
    rw [Nat.zero_testBit]
    exact ⟨fun h => absurd h (by decide), fun ⟨m, hm, _⟩ => absurd hm (Nat.not_lt_zero m)⟩
  | n + 1 => by
    have ih := in_tb (z := z) (p := p) k n
    show (if z.testBit n = true then q_in z p n ||| 2 ^ p n else q_in z p n).testBit k = true ↔ _
    by_cases h : z.testBit n = true
    · rw [if_pos h, tb_or1, Bool.or_eq_true, decide_eq_true_eq, ih]
      refine ⟨fun q => ?_, fun ⟨m, h1, h2, h3⟩ => ?_⟩
      · rcases q with ⟨m, h1, h2, h3⟩ | q
        · exact ⟨m, by omega, h2, h3⟩
        · exact ⟨n, by omega, h, q⟩
      · by_cases e : m = n
        · subst e; exact Or.inr h3
        · exact Or.inl ⟨m, by omega, h2, h3⟩
    · rw [if_neg h, ih]
      refine ⟨fun ⟨m, h1, h2, h3⟩ => ⟨m, by omega, h2, h3⟩, fun ⟨m, h1, h2, h3⟩ => ⟨m, ?_, h2, h3⟩⟩
      have : m ≠ n := fun e => h (by rw [← e]; exact h2)
      omega
def q_pc (y : Nat) : Nat := sS (fun k => if y.testBit k = true then 1 else 0) 6
theorem pc_or (y : Nat) {k : Nat} (hk : k < 6) : q_pc (y ||| 2 ^ k) = q_pc y + (if y.testBit k = true then 0 else 1) := by
  unfold q_pc
  have e : sS (fun j => if (y ||| 2 ^ k).testBit j = true then 1 else 0) 6 = sS (fun j => (if y.testBit j = true then 1 else 0) + (if k = j then (if y.testBit j = true then 0 else 1) else 0)) 6 := by
    refine sS_ext 6 (fun j _ => ?_)
    rw [tb_or1]
    by_cases h1 : y.testBit j = true
    · simp [h1]
    · by_cases h2 : k = j
      · simp [h1, h2]
      · simp [h1, h2]
  rw [e, sS_add, sS_one (fun j => if y.testBit j = true then 0 else 1) k 6, if_pos hk]
theorem pc_in {z : Nat} {p : Nat → Nat} : ∀ n, (∀ a, a < n → p a < 6) → q_pc (q_in z p n) = q_mn z p n
  | 0, _ => by show q_pc 0 = 0; decide
  | n + 1, h => by
    have ih := pc_in (z := z) n (fun a ha => h a (by omega))
    have tb := in_tb (z := z) (p := p) (p n) n
    by_cases hz : z.testBit n = true
    · have e : q_in z p (n + 1) = q_in z p n ||| 2 ^ p n := if_pos hz
      rw [e, pc_or _ (h n (by omega)), ih]
      by_cases hb : (q_in z p n).testBit (p n) = true
      · obtain ⟨m, h1, h2, h3⟩ := tb.mp hb
        rw [if_pos hb, mn_no (fun w => w.2 m h1 h2 h3), Nat.add_zero]
      · rw [if_neg hb, mn_yes ⟨hz, fun m h1 h2 h3 => hb (tb.mpr ⟨m, h1, h2, h3⟩)⟩]
    · have e : q_in z p (n + 1) = q_in z p n := if_neg hz
      rw [e, ih, mn_no (fun w => hz w.1)]
theorem nI_bitv {n i : Nat} (hn : n < 2 ^ 31) (h : i < 32) : (nI n >>> (nI i &&& 31)) &&& 1 = nI (if n.testBit i = true then 1 else 0) := by
  rw [nI_shr hn h]
  have hq : n / 2 ^ i < 2 ^ 31 := Nat.lt_of_le_of_lt (Nat.div_le_self _ _) hn
  rw [pk_andN (by omega) 1 (by decide), Nat.testBit_eq_decide_div_mod_eq]
  congr 1
  by_cases q : n / 2 ^ i % 2 = 1
  · simp [q]
  · have : n / 2 ^ i % 2 = 0 := by omega
    simp [this]
theorem p209 {M T n kk z : Nat} {r : jm_M} {p : Nat → Nat} {x3 : Int64} (hq : q_ok M T r) (hn : n ≤ M) (hp : ∀ a, a < n → p a < 6 ∧ r kk a = nI (p a)) (hz : z < 1024) (K : Int32 → Prop) (Post : Int64 → Prop) (hK : K (nI (q_in z p n))) : ∀ d i, i + d = n → vr_priceOf_209 kk (nI n) x3 (nI z) r K Post (d + 1) (nI (q_in z p i)) (nI i)
  | 0, i, hi => by
    obtain rfl : i = n := by omega
    unfold vr_priceOf_209
    exact ⟨fun _ => hK, fun w => absurd (nI_le (Nat.le_refl _) (by have := hq.1; omega)) w⟩
  | d + 1, i, hi => by
    have hM := hq.1
    have ti : (nI i).toNatClampNeg = i := tn_nI (by omega)
    obtain ⟨hi6, ei⟩ := hp i (by omega)
    have main := p209 (x3 := x3) hq hn hp hz K Post hK d (i + 1) (by omega)
    have e : q_in z p (i + 1) = if z.testBit i = true then q_in z p i ||| 2 ^ p i else q_in z p i := rfl
    unfold vr_priceOf_209
    rw [nI_bitv (by omega) (by omega), ti, ei, nI_shl1 (by omega), nI_or]
    refine ⟨fun w => absurd w (nI_ge (by omega) (by omega)), fun _ => ⟨fun w => ?_, fun w => ⟨vp_in_nI (by omega) (by omega), nm_e ?_⟩⟩⟩
    · have hb : ¬ z.testBit i = true := fun q => w (by rw [if_pos q]; rfl)
      rw [e, if_neg hb] at main
      rw [nI_1]; exact main
    · have hb : z.testBit i = true := by
        by_cases q : z.testBit i = true
        · exact q
        · rw [if_neg q] at w; exact absurd w (by decide)
      rw [e, if_pos hb] at main
      rw [nI_1]; exact main
theorem p249 {n kk z y : Nat} {r : jm_M} {x3 : Int64} (hy : y < 2 ^ 6) (K : Int32 → Prop) (Post : Int64 → Prop) (hK : K (nI (q_pc y))) : ∀ d i, i + d = 6 → vr_priceOf_249 kk (nI n) x3 (nI z) (nI y) r K Post (d + 1) (nI (sS (fun k => if y.testBit k = true then 1 else 0) i)) (nI i)
  | 0, i, hi => by
    obtain rfl : i = 6 := by omega
    unfold vr_priceOf_249
    exact ⟨fun _ => hK, fun w => absurd (by decide) w⟩
  | d + 1, i, hi => by
    have main := p249 (n := n) (kk := kk) (z := z) (r := r) (x3 := x3) hy K Post hK d (i + 1) (by omega)
    unfold vr_priceOf_249
    rw [nI_bitv (by omega) (by omega), nI_add]
    refine ⟨fun w => absurd w (nI_ge (b := 6) (by omega) (by omega)), fun _ => nm_e ?_⟩
    rw [nI_1]; exact main
theorem p182 {M T n kk : Nat} {r : jm_M} {p : Nat → Nat} (hq : q_ok M T r) (hn : n ≤ M) (hp : ∀ a, a < n → p a < 6 ∧ r kk a = nI (p a)) (X : Nat) (Post : Int64 → Prop) (hK : Post (lN (X + q_ps r p n))) : ∀ d i, 0 < i → i + d = 1024 → vr_priceOf_182 kk (nI n) r Post (d + 1) (lN (X + sS (fun z => q_v (r 31 3) * q_v (r 27 z) * (q_mn z p n - 1)) i)) (nI i)
  | 0, i, h0, hi => by
    obtain rfl : i = 1024 := by omega
    unfold vr_priceOf_182
    exact ⟨fun _ => hK, fun w => absurd (by decide) w⟩
  | d + 1, i, h0, hi => by
    have hM := hq.1
    have ti : (nI i).toNatClampNeg = i := tn_nI (by omega)
    have main := p182 hq hn hp X Post hK d (i + 1) (by omega) (by omega)
    have es : sS (fun z => q_v (r 31 3) * q_v (r 27 z) * (q_mn z p n - 1)) (i + 1) = sS (fun z => q_v (r 31 3) * q_v (r 27 z) * (q_mn z p n - 1)) i + q_v (r 31 3) * q_v (r 27 i) * (q_mn i p n - 1) := rfl
    obtain ⟨w1, w2⟩ := hq.2.2.2.2.1 3 (by omega)
    obtain ⟨c1, c2⟩ := hq.2.2.2.2.2.2.2.2 i h0 (by omega)
    have hin := in_lt (z := i) (p := p) n (fun a ha => (hp a ha).1)
    have hpc := pc_in (z := i) (p := p) n (fun a ha => (hp a ha).1)
    have hmn := mn_le i p n
    have e0 : nI (q_v (r 27 i)) = 0 ↔ q_v (r 27 i) = 0 := nI_eq (b := 0) (by omega) (by omega)
    obtain ⟨Z, hZ⟩ : ∃ Z, Z = X + sS (fun z => q_v (r 31 3) * q_v (r 27 z) * (q_mn z p n - 1)) i := ⟨_, rfl⟩
    rw [es, ← Nat.add_assoc, ← hZ] at main
    rw [← hZ]
    unfold vr_priceOf_182
    rw [ti, c2]
    refine ⟨fun w => absurd w (nI_ge (b := 1024) (by omega) (by omega)), fun _ => ⟨vp_in_nI (by omega) (by omega), fun w => ⟨n + 1, ?_⟩, fun w => ?_⟩⟩
    · refine p209 (x3 := lN Z) hq hn hp (by omega) _ _ ⟨7, ?_⟩ n 0 (by omega)
      refine p249 (x3 := lN Z) hin _ _ ?_ 6 0 (by omega)
      rw [hpc]
      refine ⟨fun w3 => ?_, fun w3 => ⟨vp_in_nI (by omega) (by omega), nm_e ?_⟩⟩
      · have := (nI_leI (b := 1) (by omega) (by omega)).mp w3
        rw [show q_mn i p n - 1 = 0 by omega, Nat.mul_zero, Nat.add_zero] at main
        rw [nI_1]; exact main
      · have hm : 1 < q_mn i p n := by
          rcases Nat.lt_or_ge 1 (q_mn i p n) with q | q
          · exact q
          · exact absurd (nI_le (b := 1) q (by omega)) w3
        rw [show nI (q_mn i p n) - 1 = nI (q_mn i p n - 1) from pk_sub (b := 1) (by omega), show (3 : Int32).toNatClampNeg = 3 from rfl, w2, nI_l (by omega), nI_l (by omega), nI_l (by omega), lN_mul, lN_mul, lN_add]
        rw [nI_1]; exact main
    · rw [e0.mp w, Nat.mul_zero, Nat.zero_mul, Nat.add_zero] at main
      rw [nI_1]; exact main
theorem prR {M T n kk : Nat} {r : jm_M} {p : Nat → Nat} (hq : q_ok M T r) (hn : n ≤ M) (hp : ∀ a, a < n → p a < 6 ∧ r kk a = nI (p a)) (P : Int64 → Prop) (hP : P (lN (q_pr r T p n))) : vr_priceOf kk (nI n) r P := by
  refine ⟨n + 1, p5 hq hn hp _ _ ⟨n + 1, ?_⟩ n 0 (by omega)⟩
  refine p71 hq hn hp _ _ _ ⟨1024, ?_⟩ n 0 (by omega)
  rw [pe_ref]
  have := p182 hq hn hp (q_pe r T p n) P hP 1023 1 (by omega) (by omega)
  have e1 : sS (fun z => q_v (r 31 3) * q_v (r 27 z) * (q_mn z p n - 1)) 1 = 0 := by
    show 0 + q_v (r 31 3) * q_v (r 27 0) * (q_mn 0 p n - 1) = 0
    rw [mn_0, Nat.zero_sub, Nat.mul_zero]
  rw [e1, Nat.add_zero] at this
  exact this
