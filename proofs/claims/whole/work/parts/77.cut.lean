/-! the cheapest rooms: the search as such -/
abbrev k_B : Type := Option (Nat × (Nat → Nat))
noncomputable def k_i (P : Prop) (a b : k_B) : k_B := @ite k_B P (Classical.propDecidable P) a b
theorem ki_y {P : Prop} {a b : k_B} (h : P) : k_i P a b = a := if_pos h
theorem ki_n {P : Prop} {a b : k_B} (h : ¬ P) : k_i P a b = b := if_neg h
/-- b holds something that costs no more than c -/
def k_w (b : k_B) (c : Nat) : Prop := ∃ (c' : Nat) (x : Nat → Nat), b = some (c', x) ∧ c' ≤ c
def k_f (f : Nat → k_B → k_B) : Nat → k_B → k_B
  | 0, b => b
  | n + 1, b => f n (k_f f n b)
/-- all ways to put k modules more behind the m of p, each into one of R rooms; b: the best so far -/
noncomputable def k_A (pr : (Nat → Nat) → Nat → Nat) (ok : (Nat → Nat) → Nat → Nat → Prop) (R : Nat) : Nat → (Nat → Nat) → Nat → k_B → k_B
  | 0, p, m, b => k_i (k_w b (pr p m)) b (some (pr p m, p))
  | k + 1, p, m, b => k_i (k_w b (pr p m)) b (k_f (fun r b => k_i (ok p m r) (k_A pr ok R k (rg_st p m r) (m + 1) b) b) R b)
/-- the same, rooms opened in their order -/
noncomputable def k_C (pr : (Nat → Nat) → Nat → Nat) (ok : (Nat → Nat) → Nat → Nat → Prop) (R : Nat) : Nat → (Nat → Nat) → Nat → Nat → k_B → k_B
  | 0, p, m, _, b => k_i (k_w b (pr p m)) b (some (pr p m, p))
  | k + 1, p, m, o, b => k_i (k_w b (pr p m)) b (k_f (fun r b => k_i (ok p m r) (k_C pr ok R k (rg_st p m r) (m + 1) (if r = o then o + 1 else o) b) b) (if o + 1 ≤ R then o + 1 else R) b)
def k_hp (pr : (Nat → Nat) → Nat → Nat) : Prop := (∀ (p q : Nat → Nat) n, (∀ a b, a < n → b < n → (p a = p b ↔ q a = q b)) → pr p n = pr q n) ∧ ∀ p n, pr p n ≤ pr p (n + 1)
def k_ho (ok : (Nat → Nat) → Nat → Nat → Prop) : Prop := ∀ (p q : Nat → Nat) m r r', (∀ j, j < m → (p j = r ↔ q j = r')) → (ok p m r ↔ ok q m r')
/-- q is a way to go on from the m of p -/
def k_q (ok : (Nat → Nat) → Nat → Nat → Prop) (R M : Nat) (p : Nat → Nat) (m : Nat) (q : Nat → Nat) : Prop := (∀ j, j < m → q j = p j) ∧ ∀ j, m ≤ j → j < M → q j < R ∧ ok q j (q j)
theorem k_up {pr : (Nat → Nat) → Nat → Nat} (hp : k_hp pr) (p : Nat → Nat) (m : Nat) : ∀ k, pr p m ≤ pr p (m + k)
  | 0 => Nat.le_refl _
  | k + 1 => Nat.le_trans (k_up hp p m k) (hp.2 p (m + k))
theorem k_pr {pr : (Nat → Nat) → Nat → Nat} (hp : k_hp pr) {p q : Nat → Nat} {m : Nat} (h : ∀ j, j < m → q j = p j) : pr q m = pr p m := hp.1 q p m (fun a b ha hb => by rw [h a ha, h b hb])
theorem k_qs {ok : (Nat → Nat) → Nat → Nat → Prop} (ho : k_ho ok) {R M m r : Nat} {p q : Nat → Nat} (hr : r < R) (hok : ok p m r) (h : k_q ok R M (rg_st p m r) (m + 1) q) : k_q ok R M p m q := by
  have e : ∀ j, j < m → q j = p j := fun j hj => by rw [h.1 j (by omega), st_n _ (by omega)]
  have em : q m = r := by rw [h.1 m (by omega), st_s]
  refine ⟨e, fun j h1 h2 => ?_⟩
  by_cases w : j = m
  · subst w
    rw [em]
    exact ⟨hr, (ho p q j r r (fun i hi => by rw [e i hi])).mp hok⟩
  · exact h.2 j (by omega) h2
theorem k_qc {ok : (Nat → Nat) → Nat → Nat → Prop} {R M m : Nat} {p q : Nat → Nat} (ho : k_ho ok) (hm : m < M) (h : k_q ok R M p m q) : q m < R ∧ ok p m (q m) ∧ k_q ok R M (rg_st p m (q m)) (m + 1) q := by
  obtain ⟨a1, a2⟩ := h.2 m (Nat.le_refl m) hm
  refine ⟨a1, (ho q p m (q m) (q m) (fun j hj => by rw [h.1 j hj])).mp a2, fun j hj => ?_, fun j h1 h2 => h.2 j (by omega) h2⟩
  by_cases w : j = m
  · rw [w, st_s]
  · rw [st_n _ w]; exact h.1 j (by omega)
theorem kf_same {f : Nat → k_B → k_B} {b : k_B} : ∀ n, (∀ r, r < n → f r b = b) → k_f f n b = b
  | 0, _ => rfl
  | n + 1, h => by
    show f n (k_f f n b) = b
    rw [kf_same n (fun r hr => h r (by omega)), h n (Nat.lt_succ_self n)]
theorem kf_ext {f g : Nat → k_B → k_B} {b : k_B} : ∀ n, (∀ r b, r < n → f r b = g r b) → k_f f n b = k_f g n b
  | 0, _ => rfl
  | n + 1, h => by
    show f n (k_f f n b) = g n (k_f g n b)
    rw [kf_ext n (fun r b hr => h r b (by omega)), h n _ (Nat.lt_succ_self n)]
theorem kf_keep {f : Nat → k_B → k_B} {c : Nat} (hf : ∀ r b, k_w b c → k_w (f r b) c) {b : k_B} {n : Nat} (h : k_w (k_f f n b) c) : ∀ d, k_w (k_f f (n + d) b) c
  | 0 => h
  | d + 1 => hf _ _ (kf_keep hf h d)
/-- nothing cheaper below: nothing changes -/
theorem k_1 {pr : (Nat → Nat) → Nat → Nat} {ok : (Nat → Nat) → Nat → Nat → Prop} {R M : Nat} (ho : k_ho ok) : ∀ k p m b, m + k = M → (∀ q, k_q ok R M p m q → k_w b (pr q M)) → k_A pr ok R k p m b = b
  | 0, p, m, b, hm, h => by
    obtain rfl : m = M := by omega
    exact ki_y (h p ⟨fun _ _ => rfl, fun j h1 h2 => by omega⟩)
  | k + 1, p, m, b, hm, h => by
    show k_i (k_w b (pr p m)) b (k_f (fun r b => k_i (ok p m r) (k_A pr ok R k (rg_st p m r) (m + 1) b) b) R b) = b
    rcases Classical.em (k_w b (pr p m)) with w | w
    · exact ki_y w
    · rw [ki_n w]
      refine kf_same R (fun r hr => ?_)
      rcases Classical.em (ok p m r) with u | u
      · rw [ki_y u]
        exact k_1 ho k (rg_st p m r) (m + 1) b (by omega) (fun q hq => h q (k_qs ho hr u hq))
      · exact ki_n u
theorem k_2a {pr : (Nat → Nat) → Nat → Nat} {ok : (Nat → Nat) → Nat → Nat → Prop} {R : Nat} {c : Nat} : ∀ k p m b, k_w b c → k_w (k_A pr ok R k p m b) c
  | 0, p, m, b, h => by
    show k_w (k_i (k_w b (pr p m)) b (some (pr p m, p))) c
    rcases Classical.em (k_w b (pr p m)) with w | w
    · rw [ki_y w]; exact h
    · rw [ki_n w]
      obtain ⟨c', x, e, hc⟩ := h
      refine ⟨pr p m, p, rfl, ?_⟩
      rcases Nat.lt_or_ge c (pr p m) with u | u
      · exact absurd ⟨c', x, e, by omega⟩ w
      · exact u
  | k + 1, p, m, b, h => by
    show k_w (k_i (k_w b (pr p m)) b (k_f (fun r b => k_i (ok p m r) (k_A pr ok R k (rg_st p m r) (m + 1) b) b) R b)) c
    rcases Classical.em (k_w b (pr p m)) with w | w
    · rw [ki_y w]; exact h
    · rw [ki_n w]
      have hf : ∀ r b, k_w b c → k_w (k_i (ok p m r) (k_A pr ok R k (rg_st p m r) (m + 1) b) b) c := fun r b hb => by
        rcases Classical.em (ok p m r) with u | u
        · rw [ki_y u]; exact k_2a k _ _ b hb
        · rw [ki_n u]; exact hb
      have := kf_keep hf (n := 0) (b := b) h R
      rw [Nat.zero_add] at this
      exact this
theorem k_step {pr : (Nat → Nat) → Nat → Nat} {ok : (Nat → Nat) → Nat → Nat → Prop} {R c k m : Nat} {p : Nat → Nat} (r : Nat) (b : k_B) (hb : k_w b c) : k_w (k_i (ok p m r) (k_A pr ok R k (rg_st p m r) (m + 1) b) b) c := by
  rcases Classical.em (ok p m r) with u | u
  · rw [ki_y u]; exact k_2a k _ _ b hb
  · rw [ki_n u]; exact hb
theorem k_2b {pr : (Nat → Nat) → Nat → Nat} {ok : (Nat → Nat) → Nat → Nat → Prop} {R M : Nat} (hp : k_hp pr) (ho : k_ho ok) : ∀ k p m b, m + k = M → ∀ q, k_q ok R M p m q → k_w (k_A pr ok R k p m b) (pr q M)
  | 0, p, m, b, hm, q, hq => by
    obtain rfl : m = M := by omega
    rw [k_pr hp hq.1]
    show k_w (k_i (k_w b (pr p m)) b (some (pr p m, p))) (pr p m)
    rcases Classical.em (k_w b (pr p m)) with w | w
    · rw [ki_y w]; exact w
    · rw [ki_n w]; exact ⟨_, _, rfl, Nat.le_refl _⟩
  | k + 1, p, m, b, hm, q, hq => by
    show k_w (k_i (k_w b (pr p m)) b (k_f (fun r b => k_i (ok p m r) (k_A pr ok R k (rg_st p m r) (m + 1) b) b) R b)) (pr q M)
    rcases Classical.em (k_w b (pr p m)) with w | w
    · rw [ki_y w]
      obtain ⟨c', x, e, hc⟩ := w
      have h1 := k_up hp q m (k + 1)
      rw [hm, k_pr hp hq.1] at h1
      exact ⟨c', x, e, by omega⟩
    · rw [ki_n w]
      obtain ⟨a1, a2, a3⟩ := k_qc ho (show m < M by omega) hq
      have here : k_w (k_f (fun r b => k_i (ok p m r) (k_A pr ok R k (rg_st p m r) (m + 1) b) b) (q m + 1) b) (pr q M) := by
        show k_w (k_i (ok p m (q m)) (k_A pr ok R k (rg_st p m (q m)) (m + 1) (k_f _ (q m) b)) _) (pr q M)
        rw [ki_y a2]
        exact k_2b hp ho k _ (m + 1) _ (by omega) q a3
      have := kf_keep (fun r b hb => k_step r b hb) here (R - (q m + 1))
      rw [show q m + 1 + (R - (q m + 1)) = R by omega] at this
      exact this
/-- two rooms changed for each other -/
def k_sw (a b x : Nat) : Nat := if x = a then b else if x = b then a else x
theorem sw_eq {a b x y : Nat} : k_sw a b x = k_sw a b y ↔ x = y := by
  constructor
  · intro h
    unfold k_sw at h
    (repeat' (split at h)) <;> omega
  · intro h; rw [h]
theorem k_same {pr : (Nat → Nat) → Nat → Nat} {ok : (Nat → Nat) → Nat → Nat → Prop} {R M : Nat} (hp : k_hp pr) (ho : k_ho ok) : ∀ k p m o b, m + k = M → (∀ j, j < m → p j < o) → o ≤ R → k_C pr ok R k p m o b = k_A pr ok R k p m b
  | 0, p, m, o, b, _, _, _ => rfl
  | k + 1, p, m, o, b, hm, hpo, hoR => by
    show k_i (k_w b (pr p m)) b (k_f (fun r b => k_i (ok p m r) (k_C pr ok R k (rg_st p m r) (m + 1) (if r = o then o + 1 else o) b) b) (if o + 1 ≤ R then o + 1 else R) b) = k_i (k_w b (pr p m)) b (k_f (fun r b => k_i (ok p m r) (k_A pr ok R k (rg_st p m r) (m + 1) b) b) R b)
    rcases Classical.em (k_w b (pr p m)) with w | w
    · rw [ki_y w, ki_y w]
    · rw [ki_n w, ki_n w]
      have first : ∀ n, n ≤ o + 1 → n ≤ R → k_f (fun r b => k_i (ok p m r) (k_C pr ok R k (rg_st p m r) (m + 1) (if r = o then o + 1 else o) b) b) n b = k_f (fun r b => k_i (ok p m r) (k_A pr ok R k (rg_st p m r) (m + 1) b) b) n b := fun n h1 h2 => kf_ext n (fun r b hr => by
        show k_i (ok p m r) (k_C pr ok R k (rg_st p m r) (m + 1) (if r = o then o + 1 else o) b) b = k_i (ok p m r) (k_A pr ok R k (rg_st p m r) (m + 1) b) b
        rw [k_same (M := M) hp ho k (rg_st p m r) (m + 1) (if r = o then o + 1 else o) b (by omega) (fun j hj => ?_) (by split <;> omega)]
        by_cases e : j = m
        · rw [e, st_s]; split <;> omega
        · rw [st_n _ e]
          have := hpo j (by omega)
          split <;> omega)
      by_cases hR : o + 1 ≤ R
      · rw [if_pos hR, first (o + 1) (Nat.le_refl _) hR]
        have rest : ∀ d, o + 1 + d ≤ R → k_f (fun r b => k_i (ok p m r) (k_A pr ok R k (rg_st p m r) (m + 1) b) b) (o + 1 + d) b = k_f (fun r b => k_i (ok p m r) (k_A pr ok R k (rg_st p m r) (m + 1) b) b) (o + 1) b := by
          intro d
          induction d with
          | zero => intro _; rfl
          | succ d ih =>
            intro hd
            show k_i (ok p m (o + 1 + d)) (k_A pr ok R k (rg_st p m (o + 1 + d)) (m + 1) (k_f _ (o + 1 + d) b)) (k_f _ (o + 1 + d) b) = _
            rw [ih (by omega)]
            rcases Classical.em (ok p m (o + 1 + d)) with u | u
            · rw [ki_y u]
              have uo : ok p m o := (ho p p m (o + 1 + d) o (fun j hj => by have := hpo j hj; omega)).mp u
              refine k_1 (M := M) ho k _ (m + 1) _ (by omega) (fun q hq => ?_)
              obtain ⟨r, hr⟩ : ∃ r, r = o + 1 + d := ⟨_, rfl⟩
              rw [← hr] at hq
              have hq2 : k_q ok R M (rg_st p m o) (m + 1) (fun j => k_sw o r (q j)) := by
                refine ⟨fun j hj => ?_, fun j h1 h2 => ⟨?_, ?_⟩⟩
                · show k_sw o r (q j) = rg_st p m o j
                  by_cases e : j = m
                  · rw [e, st_s, hq.1 m (by omega), st_s]
                    unfold k_sw
                    rw [if_neg (by omega), if_pos rfl]
                  · rw [st_n _ e, hq.1 j hj, st_n _ e]
                    have := hpo j (by omega)
                    unfold k_sw
                    rw [if_neg (by omega), if_neg (by omega)]
                · have := (hq.2 j h1 h2).1
                  show k_sw o r (q j) < R
                  unfold k_sw
                  split
                  · omega
                  · split <;> omega
                · exact (ho q _ j (q j) (k_sw o r (q j)) (fun i hi => sw_eq.symm)).mp (hq.2 j h1 h2).2
              have e2 : pr (fun j => k_sw o r (q j)) M = pr q M := hp.1 _ _ M (fun a b _ _ => sw_eq)
              rw [← e2]
              show k_w (k_i (ok p m o) (k_A pr ok R k (rg_st p m o) (m + 1) (k_f _ o b)) _) _
              rw [ki_y uo]
              exact k_2b hp ho k _ (m + 1) _ (by omega) _ hq2
            · rw [ki_n u]
        have := rest (R - (o + 1)) (by omega)
        rw [show o + 1 + (R - (o + 1)) = R by omega] at this
        exact this.symm
      · rw [if_neg hR, first R (by omega) (Nat.le_refl _)]
