/-! orders of letters, counted -/
noncomputable def oc (P : Prop) (a b : Nat) : Nat := @ite Nat P (Classical.propDecidable P) a b
theorem oc_y {P : Prop} {a b : Nat} (h : P) : oc P a b = a := if_pos h
theorem oc_n {P : Prop} {a b : Nat} (h : ¬ P) : oc P a b = b := if_neg h
theorem oc_0 {P : Prop} {a : Nat} (h : oc P a 0 ≠ 0) : P ∧ a ≠ 0 := by
  rcases Classical.em P with q | q
  · rw [oc_y q] at h; exact ⟨q, h⟩
  · rw [oc_n q] at h; exact absurd rfl h
/-- letter i can come behind those of the mask -/
def o_cn (ce : Nat → Nat) (i come : Nat) : Prop := come.testBit i = false ∧ ∀ j, j < i → ce j = ce i → come.testBit j = true
/-- in how many ways m letters more can come, through masks that stand -/
noncomputable def oX (z : Nat) (ce : Nat → Nat) (st : Nat → Prop) : Nat → Nat → Nat
  | 0, come => oc (st come) 1 0
  | m + 1, come => oc (st come) (sS (fun i => oc (o_cn ce i come) (oX z ce st m (come ||| 2 ^ i)) 0) z) 0
/-- in how many a mask on the way does not stand; ok: those before did -/
noncomputable def oB (z : Nat) (ce : Nat → Nat) (st : Nat → Prop) : Nat → Nat → Prop → Nat
  | 0, come, ok => oc (ok ∧ st come) 0 1
  | m + 1, come, ok => sS (fun i => oc (o_cn ce i come) (oB z ce st m (come ||| 2 ^ i) (ok ∧ st come)) 0) z
theorem oX_le (z : Nat) (hz : z ≤ 6) (ce : Nat → Nat) (st : Nat → Prop) : ∀ m come, oX z ce st m come ≤ 6 ^ m
  | 0, come => by
    show oc (st come) 1 0 ≤ 1
    rcases Classical.em (st come) with q | q
    · rw [oc_y q]; exact Nat.le_refl _
    · rw [oc_n q]; exact Nat.zero_le _
  | m + 1, come => by
    show oc (st come) (sS (fun i => oc (o_cn ce i come) (oX z ce st m (come ||| 2 ^ i)) 0) z) 0 ≤ 6 ^ (m + 1)
    rcases Classical.em (st come) with q | q
    · rw [oc_y q]
      have h1 : sS (fun i => oc (o_cn ce i come) (oX z ce st m (come ||| 2 ^ i)) 0) z ≤ z * 6 ^ m := sS_le z (fun i _ => by
        rcases Classical.em (o_cn ce i come) with w | w
        · rw [oc_y w]; exact oX_le z hz ce st m _
        · rw [oc_n w]; exact Nat.zero_le _)
      have h2 : z * 6 ^ m ≤ 6 * 6 ^ m := Nat.mul_le_mul_right _ hz
      rw [Nat.pow_succ]; omega
    · rw [oc_n q]; exact Nat.zero_le _
theorem oW_step (z : Nat) (ce : Nat → Nat) (m come : Nat) : oX z ce (fun _ => True) (m + 1) come = sS (fun i => oc (o_cn ce i come) (oX z ce (fun _ => True) m (come ||| 2 ^ i)) 0) z := oc_y trivial
theorem oB_all (z : Nat) (ce : Nat → Nat) (st : Nat → Prop) : ∀ m come (ok : Prop), oB z ce st m come ok + oc ok (oX z ce st m come) 0 = oX z ce (fun _ => True) m come
  | 0, come, ok => by
    show oc (ok ∧ st come) 0 1 + oc ok (oc (st come) 1 0) 0 = oc True 1 0
    rw [oc_y trivial]
    rcases Classical.em ok with q | q
    · rcases Classical.em (st come) with w | w
      · rw [oc_y ⟨q, w⟩, oc_y q, oc_y w]
      · rw [oc_n (fun u => w u.2), oc_y q, oc_n w]
    · rw [oc_n (fun u => q u.1), oc_n q]
  | m + 1, come, ok => by
    rw [oW_step]
    have ih := fun i => oB_all z ce st m (come ||| 2 ^ i) (ok ∧ st come)
    show sS (fun i => oc (o_cn ce i come) (oB z ce st m (come ||| 2 ^ i) (ok ∧ st come)) 0) z + oc ok (oc (st come) (sS (fun i => oc (o_cn ce i come) (oX z ce st m (come ||| 2 ^ i)) 0) z) 0) 0 = _
    rcases Classical.em (ok ∧ st come) with q | q
    · rw [oc_y q.1, oc_y q.2, ← sS_add]
      refine sS_ext z (fun i _ => ?_)
      rcases Classical.em (o_cn ce i come) with w | w
      · have := ih i
        rw [oc_y q] at this
        rw [oc_y w, oc_y w, oc_y w]; exact this
      · rw [oc_n w, oc_n w, oc_n w]
    · have e0 : oc ok (oc (st come) (sS (fun i => oc (o_cn ce i come) (oX z ce st m (come ||| 2 ^ i)) 0) z) 0) 0 = 0 := by
        rcases Classical.em ok with w | w
        · rw [oc_y w, oc_n (fun u => q ⟨w, u⟩)]
        · rw [oc_n w]
      rw [e0, Nat.add_zero]
      refine sS_ext z (fun i _ => ?_)
      rcases Classical.em (o_cn ce i come) with w | w
      · have := ih i
        rw [oc_n q, Nat.add_zero] at this
        rw [oc_y w, oc_y w]; exact this
      · rw [oc_n w, oc_n w]
/-- no order is broken where all stands -/
theorem oB_true (z : Nat) (ce : Nat → Nat) (m come : Nat) : oB z ce (fun _ => True) m come True = 0 := by
  have := oB_all z ce (fun _ => True) m come True
  rw [oc_y trivial] at this
  omega
/-- the masks that can come about -/
def o_cl (z : Nat) (ce : Nat → Nat) (come : Nat) : Prop := come < 2 ^ z ∧ ∀ i, i < z → come.testBit i = true → ∀ j, j < i → ce j = ce i → come.testBit j = true
theorem cl_0 (z : Nat) (ce : Nat → Nat) : o_cl z ce 0 := ⟨Nat.two_pow_pos z, fun i _ h => by rw [Nat.zero_testBit] at h; exact absurd h (by decide)⟩
theorem cl_or {z : Nat} {ce : Nat → Nat} {come i : Nat} (h : o_cl z ce come) (hi : i < z) (hc : o_cn ce i come) : o_cl z ce (come ||| 2 ^ i) := by
  refine ⟨or_lt h.1 (Nat.pow_lt_pow_right (by omega) hi), fun k hk hb j hj e => ?_⟩
  rw [tb_or1, Bool.or_eq_true, decide_eq_true_eq] at hb ⊢
  rcases hb with hb | hb
  · exact Or.inl (h.2 k hk hb j hj e)
  · subst hb; exact Or.inl (hc.2 j hj e)
theorem pc_lt : ∀ (z : Fin 7) (c : Fin 64), c.val < 2 ^ z.val → c.val ≠ 2 ^ z.val - 1 → q_pc c.val < z.val := by decide +kernel
theorem pc_full : ∀ z : Fin 7, q_pc (2 ^ z.val - 1) = z.val := by decide +kernel
theorem pc_less {z c : Nat} (hz : z ≤ 6) (hc : c < 2 ^ z) (h : c ≠ 2 ^ z - 1) : q_pc c < z := by
  have h64 : c < 64 := Nat.lt_of_lt_of_le hc (show 2 ^ z ≤ 2 ^ 6 from Nat.pow_le_pow_right (by omega) hz)
  exact pc_lt ⟨z, by omega⟩ ⟨c, h64⟩ hc h
theorem pc_all {z : Nat} (hz : z ≤ 6) : q_pc (2 ^ z - 1) = z := pc_full ⟨z, by omega⟩
theorem pc_0 : q_pc 0 = 0 := by decide
theorem all_bit {z i : Nat} (hi : i < z) : (2 ^ z - 1).testBit i = true := by
  rw [Nat.testBit_two_pow_sub_one]; exact decide_eq_true hi
/-- some letter can come while not all have -/
theorem cn_some {z : Nat} (hz : z ≤ 6) {ce : Nat → Nat} {come : Nat} (h : come < 2 ^ z) (hp : q_pc come < z) : ∃ i, i < z ∧ o_cn ce i come := by
  have : ∃ i, i < z ∧ come.testBit i = false := by
    rcases Classical.em (∃ i, i < z ∧ come.testBit i = false) with q | q
    · exact q
    · exfalso
      have e : come = 2 ^ z - 1 := by
        apply Nat.eq_of_testBit_eq
        intro i
        rw [Nat.testBit_two_pow_sub_one]
        by_cases hi : i < z
        · rw [decide_eq_true hi]
          cases hb : come.testBit i with
          | true => rfl
          | false => exact absurd ⟨i, hi, hb⟩ q
        · rw [decide_eq_false hi]
          exact Nat.testBit_lt_two_pow (Nat.lt_of_lt_of_le h (Nat.pow_le_pow_right (by omega) (by omega)))
      rw [e, pc_all hz] at hp
      omega
  obtain ⟨k, ⟨hk, hk2⟩, hmin⟩ := pk_least _ this
  exact ⟨k, hk, hk2, fun j hj _ => by
    cases hb : come.testBit j with
    | true => rfl
    | false => exact absurd ⟨by omega, hb⟩ (hmin j hj)⟩
theorem sS_pos {f : Nat → Nat} {k : Nat} : ∀ n, k < n → f k ≠ 0 → sS f n ≠ 0
  | 0, h, _ => absurd h (Nat.not_lt_zero k)
  | n + 1, h, hf => by
    show sS f n + f n ≠ 0
    by_cases e : k = n
    · subst e; omega
    · have := sS_pos n (show k < n by omega) hf; omega
theorem pc_cn {z : Nat} (hz : z ≤ 6) {ce : Nat → Nat} {come i : Nat} (hi : i < z) (hc : o_cn ce i come) : q_pc (come ||| 2 ^ i) = q_pc come + 1 := by
  rw [pc_or _ (by omega), if_neg (by rw [hc.1]; decide)]
/-- while letters wait, there is an order of them -/
theorem oW_pos {z : Nat} (hz : z ≤ 6) (ce : Nat → Nat) : ∀ m come, come < 2 ^ z → q_pc come + m = z → oX z ce (fun _ => True) m come ≠ 0
  | 0, come, _, _ => by
    show oc True 1 0 ≠ 0
    rw [oc_y trivial]; decide
  | m + 1, come, h, hp => by
    obtain ⟨i, hi, hc⟩ := cn_some hz h (show q_pc come < z by omega)
    rw [oW_step]
    refine sS_pos z hi ?_
    rw [oc_y hc]
    exact oW_pos hz ce m _ (or_lt h (Nat.pow_lt_pow_right (by omega) hi)) (by rw [pc_cn hz hi hc]; omega)
/-- the first place where f isn't 0 -/
def o_ls (f : Nat → Nat) : Nat → Nat
  | 0 => 0
  | n + 1 => if sS f n = 0 then n else o_ls f n
theorem ls_eq {f : Nat → Nat} {r : Nat} (h0 : sS f r = 0) (hr : f r ≠ 0) : ∀ n, r < n → o_ls f n = r
  | 0, h => absurd h (Nat.not_lt_zero r)
  | n + 1, h => by
    show (if sS f n = 0 then n else o_ls f n) = r
    by_cases e : r = n
    · subst e; rw [if_pos h0]
    · rw [if_neg (sS_pos n (show r < n by omega) hr), ls_eq h0 hr n (by omega)]
theorem ls_is {f : Nat → Nat} : ∀ n, sS f n ≠ 0 → o_ls f n < n ∧ sS f (o_ls f n) = 0 ∧ f (o_ls f n) ≠ 0
  | 0, h => absurd rfl h
  | n + 1, h => by
    show (if sS f n = 0 then n else o_ls f n) < n + 1 ∧ sS f (if sS f n = 0 then n else o_ls f n) = 0 ∧ f (if sS f n = 0 then n else o_ls f n) ≠ 0
    by_cases e : sS f n = 0
    · rw [if_pos e]
      have h2 : sS f n + f n ≠ 0 := h
      exact ⟨by omega, e, by omega⟩
    · rw [if_neg e]
      obtain ⟨a, b, c⟩ := ls_is n e
      exact ⟨by omega, b, c⟩
/-- what the children of a mask have of broken orders -/
noncomputable def o_fB (z : Nat) (ce : Nat → Nat) (st : Nat → Prop) (m come : Nat) (ok : Prop) (i : Nat) : Nat := oc (o_cn ce i come) (oB z ce st m (come ||| 2 ^ i) (ok ∧ st come)) 0
/-- the first broken order -/
noncomputable def o_gp (z : Nat) (ce : Nat → Nat) (st : Nat → Prop) : Nat → Nat → Prop → Nat → Nat
  | 0, _, _, _ => 0
  | m + 1, come, ok, 0 => o_ls (o_fB z ce st m come ok) z
  | m + 1, come, ok, j + 1 => o_gp z ce st m (come ||| 2 ^ o_ls (o_fB z ce st m come ok) z) (ok ∧ st come) j
