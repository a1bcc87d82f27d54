/-- a tie as a number of the class -/
def b_tn : Option Nat → Int32
  | some k => nI k
  | none => -1
theorem b_tie_lt {T N : Nat} {o x y : Int32} (hT16 : T ≤ 16) (h : b_line T N o x y) {m xo : Nat} (hm : m < 10) (hx : xo < 10) {k : Nat} (e : b_tie o m x.toNatClampNeg xo = some k) : k < 420 := by
  unfold b_tie at e
  rcases h with q | q | ⟨q, t, k2, q1, q2, q3, q4⟩ | ⟨q, k2, q1, q2⟩ | ⟨q, -⟩ | q
  · simp [q] at e
  · simp [q] at e
  · rw [q3, tn_nI (by omega)] at e
    rcases q with q | q | q | q <;> simp [q] at e <;> omega
  · simp [q] at e; omega
  · simp [q] at e
  · simp [q] at e
set_option maxRecDepth 8000 in
/-- the tie of a line that may stand -/
theorem tie_of {T N : Nat} {g : cm_M} (hT16 : T ≤ 16) (hN : N ≤ 40) (hw : ∀ j, j < N → ∃ h : Nat, h < 10 ∧ g.2.2 6 j = nI h) {i z : Nat} (hi : i < N) (hz : z < 16) (hl : b_line T N (g.2.2 8 (16 * i + z)) (g.2.2 9 (16 * i + z)) (g.2.2 10 (16 * i + z))) (P : Int32 → Prop) (hp : P (b_tn (b_tie (g.2.2 8 (16 * i + z)) (g.2.2 6 i).toNatClampNeg (g.2.2 9 (16 * i + z)).toNatClampNeg (g.2.2 6 (g.2.2 9 (16 * i + z)).toNatClampNeg).toNatClampNeg))) : vc_X9_tieOfLine (nI i) (nI (16 * i + z)) g P := by
  have e1 : (nI i).toNatClampNeg = i := tn_nI (by omega)
  have e2 : (nI (16 * i + z)).toNatClampNeg = 16 * i + z := tn_nI (by omega)
  have i1 : vp_in (nI i) 40 := vp_in_nI (by omega) (by omega)
  have i2 : vp_in (nI (16 * i + z)) 640 := vp_in_nI (by omega) (by omega)
  obtain ⟨m, hm, em⟩ := hw i hi
  have e3 : (nI m).toNatClampNeg = m := tn_nI (by omega)
  have k1 : ∀ k t : Nat, nI k + nI m * 16 + nI t = nI (k + 16 * m + t) := fun k t => by
    rw [show nI m * 16 = nI (m * 16) from pk_mul m 16, nI_add, nI_add]; congr 1; omega
  have k100 : ∀ t : Nat, 100 + nI m * 16 + nI t = nI (100 + 16 * m + t) := k1 100
  have k260 : ∀ t : Nat, 260 + nI m * 16 + nI t = nI (260 + 16 * m + t) := k1 260
  have k10 : ∀ t : Nat, nI m * 10 + nI t = nI (10 * m + t) := fun t => ij' (k := 10) (by omega)
  unfold vc_X9_tieOfLine
  rw [e1, e2, em]
  rw [em, e3] at hp
  refine ⟨i1, nm_e ⟨i2, ?_⟩⟩
  unfold b_tie at hp
  rcases hl with q | q | ⟨q, t, k2, q1, q2, q3, q4⟩ | ⟨q, k2, q1, q2⟩ | ⟨q, -⟩ | q
  · simp [q, b_tn] at hp; simp [q, hp]
  · simp [q, b_tn] at hp; simp [q, hp]
  · have e4 : (nI t).toNatClampNeg = t := tn_nI (by omega)
    rw [q3, e4] at hp
    rcases q with q | q | q | q <;> simp [q, b_tn] at hp <;> simp [q, i2, q3, vc_X10_tiePlace, k100, k260, hp]
  · have e4 : (nI k2).toNatClampNeg = k2 := tn_nI (by omega)
    obtain ⟨h2, hh2, eh2⟩ := hw k2 q1
    have e5 : (nI h2).toNatClampNeg = h2 := tn_nI (by omega)
    have i3 : vp_in (nI k2) 40 := vp_in_nI (by omega) (by omega)
    rw [q2, e4, eh2, e5] at hp
    simp [q, b_tn] at hp
    simp [q, q2, i2, i3, e4, eh2, vc_X10_tiePlace, k10, hp]
  · simp [q, b_tn] at hp; simp [q, hp]
  · simp [q, b_tn] at hp; simp [q, hp]
/-- how the count moves when one routine's part does -/
theorem b_cnt_move {w z o x w2 z2 o2 x2 : Nat → Int32} {p i a b : Nat} : ∀ n, (∀ j, j < n → j ≠ i → b_cnt1 w2 o2 x2 j p (z2 j).toNatClampNeg = b_cnt1 w o x j p (z j).toNatClampNeg) → b_cnt1 w o x i p (z i).toNatClampNeg = a → b_cnt1 w2 o2 x2 i p (z2 i).toNatClampNeg = b → b_cnt w2 z2 o2 x2 p n + (if i < n then a else 0) = b_cnt w z o x p n + (if i < n then b else 0)
  | 0, _, _, _ => by simp [b_cnt]
  | n + 1, h, ha, hb => by
    have ih := b_cnt_move n (fun j hj hn => h j (by omega) hn) ha hb
    simp only [b_cnt]
    by_cases e : n = i
    · subst e
      rw [ha, hb]
      simp at ih ⊢
      omega
    · rw [h n (by omega) e]
      by_cases q : i < n
      · rw [if_pos q, if_pos q] at ih
        rw [if_pos (by omega), if_pos (by omega)]; omega
      · rw [if_neg q, if_neg q] at ih
        rw [if_neg (by omega), if_neg (by omega)]; omega
/-- the count of a routine asks only its own lines -/
theorem b_cnt1_ext {w o x w2 o2 x2 : Nat → Int32} {i p : Nat} : ∀ z, (∀ j, j < z → o2 (16 * i + j) = o (16 * i + j)) → (∀ j, j < z → x2 (16 * i + j) = x (16 * i + j)) → (∀ j, w2 j = w j) → b_cnt1 w2 o2 x2 i p z = b_cnt1 w o x i p z
  | 0, _, _, _ => rfl
  | z + 1, h1, h2, h3 => by
    rw [b_cnt1, b_cnt1, b_cnt1_ext z (fun j hj => h1 j (by omega)) (fun j hj => h2 j (by omega)) h3, h1 z (by omega), h2 z (by omega), h3, h3]
theorem b_cnt1_le {w o x : Nat → Int32} {i p : Nat} : ∀ z, b_cnt1 w o x i p z ≤ z
  | 0 => Nat.le_refl 0
  | z + 1 => by
    have := b_cnt1_le (w := w) (o := o) (x := x) (i := i) (p := p) z
    rw [b_cnt1]; split <;> omega
theorem b_cnt_ge {w z o x : Nat → Int32} {p i : Nat} : ∀ n, i < n → b_cnt1 w o x i p (z i).toNatClampNeg ≤ b_cnt w z o x p n
  | 0, h => absurd h (Nat.not_lt_zero i)
  | n + 1, h => by
    rw [b_cnt]
    by_cases e : i = n
    · subst e; omega
    · have := b_cnt_ge (w := w) (z := z) (o := o) (x := x) (p := p) n (by omega : i < n); omega
theorem b_cnt_le {M T N : Nat} {r : jm_M} (hX : b_X M T N r) (p : Nat) : ∀ n, n ≤ N → b_cnt (r 6) (r 7) (r 8) (r 9) p n ≤ 16 * n
  | 0, _ => Nat.le_refl 0
  | n + 1, h => by
    obtain ⟨z, hz, ez, -⟩ := hX.2.2.2.1 n (by omega)
    have h1 := b_cnt_le hX p n (by omega)
    have h2 := b_cnt1_le (w := r 6) (o := r 8) (x := r 9) (i := n) (p := p) z
    rw [b_cnt, ez, tn_nI (by omega)]; omega
