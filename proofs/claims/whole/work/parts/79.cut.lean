/-! cut: the class's search -/
theorem pr_lt {M T n : Nat} {r : jm_M} (hq : q_ok M T r) (hn : n ≤ M) (p : Nat → Nat) : q_pr r T p n < 2 ^ 62 := by
  obtain ⟨hM, hT, r3, h4, h31, h24, h25, h26, h27⟩ := hq
  have w : ∀ i, i < 4 → q_v (r 31 i) ≤ 99 := fun i hi => (h31 i hi).1
  have hca : ∀ a b, a < n → b < n → q_ca r a b ≤ 99 * 200000 := fun a b ha hb => Nat.mul_le_mul (w 0 (by omega)) (h24 _ (by omega)).1
  have hta : ∀ a t, a < n → t < T → q_ta r a t ≤ 99 * 200000 + 99 * 200000 := fun a t ha ht => Nat.add_le_add (Nat.mul_le_mul (w 1 (by omega)) (h25 _ (by omega)).1) (Nat.mul_le_mul (w 2 (by omega)) (h26 _ (by omega)).1)
  have hE : ∀ a b, a < n → b < n → q_E r T a b ≤ 99 * 200000 + 16 * (99 * 200000 + 99 * 200000) := fun a b ha hb => by
    have h1 : sS (fun t => if q_v (r 4 t) = b then q_ta r a t else 0) T ≤ T * (99 * 200000 + 99 * 200000) := sS_le T (fun t ht => by
      by_cases e : q_v (r 4 t) = b
      · rw [if_pos e]; exact hta a t ha ht
      · rw [if_neg e]; exact Nat.zero_le _)
    have h2 : T * (99 * 200000 + 99 * 200000) ≤ 16 * (99 * 200000 + 99 * 200000) := Nat.mul_le_mul_right _ hT
    exact Nat.add_le_add (hca a b ha hb) (Nat.le_trans h1 h2)
  have hpe : q_pe r T p n ≤ n * (n * (99 * 200000 + 16 * (99 * 200000 + 99 * 200000))) := sS_le n (fun a ha => sS_le n (fun b hb => by
    by_cases e : p a = p b
    · rw [if_pos e]; exact Nat.zero_le _
    · rw [if_neg e]; exact hE a b ha hb))
  have hpe2 : n * (n * (99 * 200000 + 16 * (99 * 200000 + 99 * 200000))) ≤ 10 * (10 * (99 * 200000 + 16 * (99 * 200000 + 99 * 200000))) := Nat.mul_le_mul (by omega) (Nat.mul_le_mul_right _ (by omega))
  have hps : q_ps r p n ≤ 1024 * (99 * 1000 * 10) := sS_le 1024 (fun z hz => by
    have hm := mn_le z p n
    by_cases e : z = 0
    · subst e; rw [mn_0]; exact Nat.zero_le _
    · exact Nat.mul_le_mul (Nat.mul_le_mul (w 3 (by omega)) (h27 z (by omega) hz).1) (by omega))
  unfold q_pr
  omega
def k_X (B M T R most : Nat) (gd : cm_D) (gj0 : cm_J) (c0 r : jm_M) : Prop := B ≤ 512 ∧ M ≤ 9 ∧ R ≤ 6 ∧ most ≤ 9999 ∧ c0 12 0 = nI M ∧ (∀ k, k < M → k_sz r k ≤ 99 ∧ c0 4 k = nI (k_sz r k)) ∧ c0 48 0 = nI R ∧ c0 49 0 = nI most ∧ q_inv M (gj0 0) (q_E r T) ∧ gj0 1 0 = lN (q_v (r 31 3)) ∧ b_S B gd.2.1 c0 r ∧ (∀ m, m < M → (∃ y, y < 2 ^ 9 ∧ c0 46 m = nI y ∧ ∀ j, y.testBit j = true ↔ j < m ∧ r 32 (10 * j + m) = 1) ∧ (∃ y, y < 2 ^ 9 ∧ c0 47 m = nI y ∧ ∀ j, y.testBit j = true ↔ j < m ∧ r 32 (10 * j + m) = 2)) ∧ ∀ p n, n ≤ M → q_pr r T p n < 2 ^ 62
def k_S2 (r : jm_M) (m : Nat) (p : Nat → Nat) (J : jm_M) : Prop := (∀ x, x < 6 → (∃ y, y < 2 ^ 9 ∧ J 42 x = nI y ∧ ∀ j, y.testBit j = true ↔ j < m ∧ p j = x) ∧ J 43 x = nI (sS (fun k => if p k = x then k_sz r k else 0) m)) ∧ ∀ j, j < m → J 44 j = nI (p j)
def k_S4 (M : Nat) (b : k_B) (gj : cm_J) (J : jm_M) : Prop := (b = none ∧ J 50 0 = 0) ∨ ∃ (c : Nat) (x : Nat → Nat), c < 2 ^ 62 ∧ b = some (c, x) ∧ J 50 0 = 1 ∧ gj 2 0 = lN c ∧ ∀ j, j < M → J 45 j = nI (x j)
def k_S (M m : Nat) (c0 r : jm_M) (gj0 : cm_J) (p : Nat → Nat) (b : k_B) (gj : cm_J) (J : jm_M) : Prop := (∀ k, k ≠ 50 → (k < 42 ∨ 45 < k) → J k = c0 k) ∧ (∀ k, k ≠ 2 → gj k = gj0 k) ∧ k_S2 r m p J ∧ k_S4 M b gj J
theorem al_of {m rr y ya yt : Nat} {g : cm_M} {r : jm_M} {p : Nat → Nat} (hm : m < 9) (hy : y < 2 ^ 9) (hyb : ∀ j, y.testBit j = true ↔ j < m ∧ p j = rr) (ha : ya < 2 ^ 9) (ea : g.2.2 47 m = nI ya) (hab : ∀ j, ya.testBit j = true ↔ j < m ∧ r 32 (10 * j + m) = 2) (ht : yt < 2 ^ 9) (et : g.2.2 46 m = nI yt) (htb : ∀ j, yt.testBit j = true ↔ j < m ∧ r 32 (10 * j + m) = 1) (P : Int32 → Prop) (h1 : (∀ k, k < m → (r 32 (10 * k + m) = 1 → p k = rr) ∧ (r 32 (10 * k + m) = 2 → p k ≠ rr)) → P 1) (h0 : ¬ (∀ k, k < m → (r 32 (10 * k + m) = 1 → p k = rr) ∧ (r 32 (10 * k + m) = 2 → p k ≠ rr)) → P 0) : vc_X2_isAllowed (nI m) (nI y) g P := by
  have e1 := nI_and0 (n := y) (a := ya) (by omega)
  have e2 := nI_sub0 (n := y) (a := yt) (by omega) (by omega)
  unfold vc_X2_isAllowed
  rw [tn_nI (by omega), ea, et, e1, e2]
  refine ⟨vp_in_nI hm (by omega), fun w => h0 (fun u => w (fun j q1 q2 => ?_)), fun w => ⟨vp_in_nI hm (by omega), fun w2 => h0 (fun u => w2 (fun j q1 => ?_)), fun w2 => h1 (fun k hk => ⟨fun u => ?_, fun u v => ?_⟩)⟩⟩
  · obtain ⟨a1, a2⟩ := (hab j).mp q1
    exact (u j a1).2 a2 ((hyb j).mp q2).2
  · obtain ⟨a1, a2⟩ := (htb j).mp q1
    exact (hyb j).mpr ⟨a1, (u j a1).1 a2⟩
  · exact ((hyb k).mp (w2 k ((htb k).mpr ⟨hk, u⟩))).2
  · exact w k ((hab k).mpr ⟨hk, u⟩) ((hyb k).mpr ⟨hk, v⟩)
theorem S2_in {r : jm_M} {m rr y : Nat} {p : Nat → Nat} {J : jm_M} (hm : m < 9) (hr : rr < 6) (h : k_S2 r m p J) (hy : y < 2 ^ 9) (ey : J 42 rr = nI y) (hyb : ∀ j, y.testBit j = true ↔ j < m ∧ p j = rr) : k_S2 r (m + 1) (rg_st p m rr) (jm_u (jm_u (jm_u J 44 (upd (J 44) m (nI rr))) 42 (upd (J 42) rr (nI (y ||| 2 ^ m)))) 43 (upd (J 43) rr (nI (sS (fun k => if p k = rr then k_sz r k else 0) m + k_sz r m)))) := by
  have es : ∀ x, sS (fun k => if rg_st p m rr k = x then k_sz r k else 0) (m + 1) = sS (fun k => if p k = x then k_sz r k else 0) m + (if rr = x then k_sz r m else 0) := fun x => by
    show sS (fun k => if rg_st p m rr k = x then k_sz r k else 0) m + (if rg_st p m rr m = x then k_sz r m else 0) = _
    rw [st_s]
    congr 1
    exact sS_ext m (fun k hk => by rw [st_n _ (by omega)])
  have r42 : (jm_u (jm_u (jm_u J 44 (upd (J 44) m (nI rr))) 42 (upd (J 42) rr (nI (y ||| 2 ^ m)))) 43 (upd (J 43) rr (nI (sS (fun k => if p k = rr then k_sz r k else 0) m + k_sz r m)))) 42 = upd (J 42) rr (nI (y ||| 2 ^ m)) := rfl
  have r43 : (jm_u (jm_u (jm_u J 44 (upd (J 44) m (nI rr))) 42 (upd (J 42) rr (nI (y ||| 2 ^ m)))) 43 (upd (J 43) rr (nI (sS (fun k => if p k = rr then k_sz r k else 0) m + k_sz r m)))) 43 = upd (J 43) rr (nI (sS (fun k => if p k = rr then k_sz r k else 0) m + k_sz r m)) := rfl
  have r44 : (jm_u (jm_u (jm_u J 44 (upd (J 44) m (nI rr))) 42 (upd (J 42) rr (nI (y ||| 2 ^ m)))) 43 (upd (J 43) rr (nI (sS (fun k => if p k = rr then k_sz r k else 0) m + k_sz r m)))) 44 = upd (J 44) m (nI rr) := rfl
  refine ⟨fun x hx => ?_, fun j hj => ?_⟩
  · rw [r42, r43, es]
    by_cases e : x = rr
    · subst e
      rw [pk_us, pk_us, if_pos rfl]
      refine ⟨⟨y ||| 2 ^ m, or_lt hy (Nat.pow_lt_pow_right (by omega) hm), rfl, fun j => ?_⟩, rfl⟩
      rw [tb_or1, Bool.or_eq_true, decide_eq_true_eq, hyb j]
      refine ⟨fun w => ?_, fun ⟨w1, w2⟩ => ?_⟩
      · rcases w with w | w
        · exact ⟨by omega, by rw [st_n _ (by omega)]; exact w.2⟩
        · subst w; exact ⟨by omega, st_s _ _ _⟩
      · by_cases u : j = m
        · exact Or.inr u.symm
        · rw [st_n _ u] at w2; exact Or.inl ⟨by omega, w2⟩
    · obtain ⟨⟨y', a1, a2, a3⟩, a4⟩ := h.1 x hx
      rw [pk_un e, pk_un e, if_neg (fun u => e u.symm), Nat.add_zero]
      refine ⟨⟨y', a1, a2, fun j => ?_⟩, a4⟩
      rw [a3 j]
      refine ⟨fun w => ⟨by omega, by rw [st_n _ (by omega)]; exact w.2⟩, fun ⟨w1, w2⟩ => ?_⟩
      by_cases u : j = m
      · rw [u, st_s] at w2; exact absurd w2.symm e
      · rw [st_n _ u] at w2; exact ⟨by omega, w2⟩
  · rw [r44]
    by_cases u : j = m
    · rw [u, pk_us, st_s]
    · rw [pk_un u, st_n _ u]; exact h.2 j (by omega)
theorem S2_out {r : jm_M} {m rr : Nat} {p : Nat → Nat} {J : jm_M} (hm : m < 9) (hr : rr < 6) (h : k_S2 r (m + 1) (rg_st p m rr) J) : ∃ (y : Nat), J 42 rr &&& ((1 : Int32) <<< (nI m &&& 31) ^^^ (-1)) = nI y ∧ J 43 rr - nI (k_sz r m) = nI (sS (fun k => if p k = rr then k_sz r k else 0) m) ∧ k_S2 r m p (jm_u (jm_u J 42 (upd (J 42) rr (nI y))) 43 (upd (J 43) rr (nI (sS (fun k => if p k = rr then k_sz r k else 0) m)))) := by
  have es : ∀ x, sS (fun k => if rg_st p m rr k = x then k_sz r k else 0) (m + 1) = sS (fun k => if p k = x then k_sz r k else 0) m + (if rr = x then k_sz r m else 0) := fun x => by
    show sS (fun k => if rg_st p m rr k = x then k_sz r k else 0) m + (if rg_st p m rr m = x then k_sz r m else 0) = _
    rw [st_s]
    congr 1
    exact sS_ext m (fun k hk => by rw [st_n _ (by omega)])
  obtain ⟨⟨y, a1, a2, a3⟩, a4⟩ := h.1 rr hr
  have hp2 : 2 ^ m < 2 ^ 9 := Nat.pow_lt_pow_right (by omega) hm
  refine ⟨y &&& (2 ^ 32 - 1 - 2 ^ m), ?_, ?_, fun x hx => ?_, fun j hj => ?_⟩
  · rw [a2, nI_shl1 (by omega), nI_not (by omega)]
  · rw [a4, es, if_pos rfl, pk_sub (by omega), Nat.add_sub_cancel]
  · show (∃ y', y' < 2 ^ 9 ∧ upd (J 42) rr (nI (y &&& (2 ^ 32 - 1 - 2 ^ m))) x = nI y' ∧ ∀ j, y'.testBit j = true ↔ j < m ∧ p j = x) ∧ upd (J 43) rr (nI (sS (fun k => if p k = rr then k_sz r k else 0) m)) x = _
    by_cases e : x = rr
    · subst e
      rw [pk_us, pk_us]
      refine ⟨⟨y &&& (2 ^ 32 - 1 - 2 ^ m), Nat.lt_of_le_of_lt Nat.and_le_left a1, rfl, fun j => ?_⟩, rfl⟩
      rw [Nat.testBit_and, Bool.and_eq_true, a3 j]
      have tb : (2 ^ 32 - 1 - 2 ^ m).testBit j = (decide (j < 32) && !(2 ^ m).testBit j) := by
        rw [show 2 ^ 32 - 1 - 2 ^ m = 2 ^ 32 - (2 ^ m + 1) from by omega]
        exact Nat.testBit_two_pow_sub_succ (by omega) j
      rw [tb, Nat.testBit_two_pow]
      refine ⟨fun ⟨⟨w1, w2⟩, w3⟩ => ?_, fun ⟨w1, w2⟩ => ⟨⟨by omega, by rw [st_n _ (by omega)]; exact w2⟩, ?_⟩⟩
      · have hne : j ≠ m := fun u => by rw [u] at w3; simp at w3
        rw [st_n _ hne] at w2
        exact ⟨by omega, w2⟩
      · rw [decide_eq_true (show j < 32 by omega), decide_eq_false (show ¬ m = j by omega)]; rfl
    · obtain ⟨⟨y', b1, b2, b3⟩, b4⟩ := h.1 x hx
      rw [pk_un e, pk_un e]
      rw [es, if_neg (fun u => e u.symm), Nat.add_zero] at b4
      refine ⟨⟨y', b1, b2, fun j => ?_⟩, b4⟩
      rw [b3 j]
      refine ⟨fun ⟨w1, w2⟩ => ?_, fun w => ⟨by omega, by rw [st_n _ (by omega)]; exact w.2⟩⟩
      by_cases u : j = m
      · rw [u, st_s] at w2; exact absurd w2.symm e
      · rw [st_n _ u] at w2; exact ⟨by omega, w2⟩
  · show J 44 j = _
    rw [h.2 j (by omega), st_n _ (by omega)]
theorem b_S_c {B : Nat} {n : Nat → Nat} {c c' r : jm_M} (h : b_S B n c r) (h34 : c' 34 = c 34) (h35 : c' 35 = c 35) (h36 : c' 36 = c 36) : b_S B n c' r := by
  unfold b_S at h ⊢
  rw [h34, h35, h36]; exact h
theorem sz_le {r : jm_M} {M : Nat} (hs : ∀ k, k < M → k_sz r k ≤ 99) (p : Nat → Nat) (x : Nat) {m : Nat} (hm : m ≤ M) : sS (fun k => if p k = x then k_sz r k else 0) m ≤ m * 99 := sS_le m (fun k hk => by
  by_cases e : p k = x
  · rw [if_pos e]; exact hs k (by omega)
  · rw [if_neg e]; exact Nat.zero_le _)
