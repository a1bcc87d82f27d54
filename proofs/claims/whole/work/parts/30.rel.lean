/-! ===== STAGE B: what class and reference have in common between two calls ===== -/
/-- a line that may stand, with T tables and N routines -/
def b_line (T N : Nat) (o x y : Int32) : Prop := o = 0 ∨ o = 1 ∨ ((o = 2 ∨ o = 3 ∨ o = 7 ∨ o = 8) ∧ ∃ t k : Nat, t < T ∧ k < 8 ∧ x = nI t ∧ y = nI k) ∨ (o = 4 ∧ ∃ q : Nat, q < N ∧ x = nI q) ∨ (o = 5 ∧ ∃ z : Nat, 1 ≤ z ∧ z ≤ 15 ∧ x = nI z) ∨ o = 6
/-- the text: M modules, T tables, N routines -/
def b_T (M T N : Nat) (c r : jm_M) : Prop := M ≤ 10 ∧ T ≤ 16 ∧ N ≤ 40 ∧ c 12 0 = nI M ∧ r 1 0 = nI M ∧ c 13 0 = nI T ∧ r 3 0 = nI T ∧ c 14 0 = nI N ∧ r 5 0 = nI N ∧ c 4 = r 2 ∧ c 5 = r 4 ∧ c 6 = r 6 ∧ c 7 = r 7 ∧ c 8 = r 8 ∧ c 9 = r 9 ∧ c 10 = r 10
/-- what the text's rows hold -/
def b_X (M T N : Nat) (r : jm_M) : Prop := (∀ i, i < M → ∃ z : Nat, 1 ≤ z ∧ z ≤ 99 ∧ r 2 i = nI z) ∧ (∀ i, i < T → ∃ h : Nat, h < M ∧ r 4 i = nI h) ∧ (∀ i, i < N → ∃ h : Nat, h < M ∧ r 6 i = nI h) ∧ (∀ i, i < N → ∃ z : Nat, z ≤ 16 ∧ r 7 i = nI z ∧ ∀ j, j < z → b_line T N (r 8 (16 * i + j)) (r 9 (16 * i + j)) (r 10 (16 * i + j))) ∧ (∀ i, N ≤ i → i < 40 → r 7 i = 0)
/-- the text tie of a line: its place among 420, none for a line without one -/
def b_tie (o : Int32) (m x xo : Nat) : Option Nat := if o = 4 then some (10 * m + xo) else if o = 2 ∨ o = 7 ∨ o = 8 then some (100 + 16 * m + x) else if o = 3 then some (260 + 16 * m + x) else none
/-- of routine i, how many of its first z lines make the tie p -/
def b_cnt1 (w o x : Nat → Int32) (i p : Nat) : Nat → Nat
  | 0 => 0
  | z + 1 => b_cnt1 w o x i p z + (if b_tie (o (16 * i + z)) (w i).toNatClampNeg (x (16 * i + z)).toNatClampNeg (w (x (16 * i + z)).toNatClampNeg).toNatClampNeg = some p then 1 else 0)
/-- of the first n routines, how many lines make the tie p -/
def b_cnt (w z o x : Nat → Int32) (p : Nat) : Nat → Nat
  | 0 => 0
  | n + 1 => b_cnt w z o x p n + b_cnt1 w o x n p (z n).toNatClampNeg
def b_ties (N : Nat) (c r : jm_M) : Prop := ∀ p, p < 420 → c 11 p = nI (b_cnt (r 6) (r 7) (r 8) (r 9) p N)
/-- the letters that wait, by their numbers -/
def b_wl (r45 : Nat → Int32) (S : Nat) : List Nat := (List.range S).filter (fun l => r45 l == 1)
/-- sets of homes, and letters -/
def b_S (B : Nat) (n : Nat → Nat) (c r : jm_M) : Prop := ∃ K e : Nat, c 36 0 = nI K ∧ K ≤ n 0 ∧ n 0 = 16 * 2 ^ e ∧ n 0 ≤ 1024 ∧ n 1 = n 0 ∧ (∀ i, i < K → ∃ z y : Nat, z < 1024 ∧ c 34 i = nI z ∧ y ≤ B ∧ c 35 i = nI y ∧ (z ≠ 0 → r 27 z = nI y)) ∧ (∀ i j, i < j → j < K → c 34 i ≠ c 34 j) ∧ (∀ z, z ≠ 0 → z < 1024 → (∀ i, i < K → c 34 i ≠ nI z) → r 27 z = 0)
def b_L (T : Nat) (n : Nat → Nat) (c r : jm_M) : Prop := ∃ S e : Nat, S ≤ 2000 ∧ c 40 0 = nI S ∧ r 40 0 = nI S ∧ S ≤ n 2 ∧ n 2 = 32 * 2 ^ e ∧ n 2 ≤ 2048 ∧ n 3 = n 2 ∧ (∀ l, l < S → ∃ k f t : Nat, k < 8 * T ∧ f < 6 ∧ t < 6 ∧ r 41 l = nI k ∧ r 43 l = nI f ∧ r 44 l = nI t ∧ c 37 l = nI ((k * 6 + f) * 6 + t) ∧ c 38 l = r 42 l ∧ (r 45 l = 0 ∨ r 45 l = 1)) ∧ (b_wl (r 45) S).length ≤ 40 ∧ c 41 0 = nI (b_wl (r 45) S).length ∧ (∀ j, j < (b_wl (r 45) S).length → c 39 j = nI ((b_wl (r 45) S).getD j 0))
/-- both houses, as an image keeps them; B bounds what was counted -/
def b_H (B T : Nat) (n : Nat → Nat) (c r : jm_M) : Prop := ((∀ i, i < 128 → c 25 i = r 11 i) ∧ (∀ i, i < 128 → c 26 i = r 12 i) ∧ (∀ i, 8 * T ≤ i → i < 128 → r 11 i = 0 ∧ r 12 i = 0)) ∧ ((∀ i, i < 10 → c 27 i = r 30 i) ∧ (∀ i, i < 10 → ∃ z : Nat, z < 6 ∧ r 30 i = nI z)) ∧ ((∀ i, i < 100 → c 28 i = r 24 i) ∧ (∀ i, i < 160 → c 28 (100 + i) = r 25 i) ∧ (∀ i, i < 160 → c 28 (260 + i) = r 26 i) ∧ (∀ i, i < 420 → ∃ z : Nat, z ≤ 300 * B ∧ c 28 i = nI z)) ∧ ((∀ i, i < 5 → c 29 i = r 59 i) ∧ c 30 0 = r 58 0 ∧ (r 58 0 = 0 ∨ r 58 0 = 1) ∧ c 31 0 = r 28 0 ∧ c 32 0 = r 29 0 ∧ c 33 0 = r 57 0) ∧ b_S B n c r ∧ b_L T n c r
/-- laws -/
def b_W (T : Nat) (c r : jm_M) : Prop := ∃ K : Nat, K ≤ 10 ∧ c 59 0 = nI K ∧ r 46 0 = nI K ∧ c 56 = r 47 ∧ c 55 = r 48 ∧ c 57 = r 49 ∧ c 58 = r 50 ∧ (∀ i, i < 10 → ∃ z : Nat, z ≤ 6 ∧ r 48 i = nI z ∧ ∀ j, j < z → ∃ k : Nat, k < 8 * T ∧ r 49 (6 * i + j) = nI k)
/-- weights, what was told, the cut that is kept -/
def b_P (M : Nat) (c r : jm_M) : Prop := (∀ i, i < 4 → c 2 i = r 31 i) ∧ (∀ i, i < 4 → ∃ z : Nat, z ≤ 99 ∧ r 31 i = nI z) ∧ c 3 = r 32 ∧ (∀ i j, i < 10 → j < 10 → r 32 (10 * i + j) = r 32 (10 * j + i)) ∧ (∀ i, i < 100 → r 32 i = 0 ∨ r 32 i = 1 ∨ r 32 i = 2) ∧ ∃ K : Nat, K ≤ 9 ∧ c 52 0 = nI K ∧ ((r 33 0 = 0 ∧ K = 0) ∨ (r 33 0 = 1 ∧ r 34 0 = nI K)) ∧ ∀ i, i < K → c 51 i = r 35 i
/-- the class's own scratch: what was written, and that alone, is marked -/
def b_A (c : jm_M) : Prop := (∃ z : Nat, z ≤ 6 ∧ c 67 0 = nI z) ∧ ∃ K : Nat, K ≤ 128 ∧ c 21 0 = nI K ∧ (∀ i, i < K → ∃ z : Nat, z < 128 ∧ c 17 i = nI z) ∧ (∀ z, z < 128 → (∀ i, i < K → c 17 i ≠ nI z) → c 16 z = 0)
/-- image i of the reference, as a memory -/
def b_im (f : Nat → Int32) (i : Nat) : jm_M := fun k => match k with
  | 11 => fun j => f (13400 * i + 2 + j)
  | 12 => fun j => f (13400 * i + 130 + j)
  | 24 => fun j => f (13400 * i + 258 + j)
  | 25 => fun j => f (13400 * i + 358 + j)
  | 26 => fun j => f (13400 * i + 518 + j)
  | 27 => fun j => f (13400 * i + 678 + j)
  | 30 => fun j => f (13400 * i + 1702 + j)
  | 59 => fun j => f (13400 * i + 1712 + j)
  | 58 => fun _ => f (13400 * i + 1717)
  | 57 => fun _ => f (13400 * i + 1718)
  | 28 => fun _ => f (13400 * i + 1719)
  | 29 => fun _ => f (13400 * i + 1720)
  | 40 => fun _ => f (13400 * i + 1721)
  | 41 => fun l => f (13400 * i + 1722 + 5 * l)
  | 42 => fun l => f (13400 * i + 1723 + 5 * l)
  | 43 => fun l => f (13400 * i + 1724 + 5 * l)
  | 44 => fun l => f (13400 * i + 1725 + 5 * l)
  | 45 => fun l => f (13400 * i + 1726 + 5 * l)
  | _ => fun _ => 0
def b_I (B : Nat) (d : cm_D) (c r : jm_M) : Prop := ∀ i, i < 4 → (d.2.2.1 i = none ∧ r 60 i = 0) ∨ (∃ a : Nat → Nat, d.2.2.1 i = some a ∧ r 60 i = 1 ∧ c 0 i = r 61 (13400 * i) ∧ c 1 i = r 61 (13400 * i + 1) ∧ ∃ T : Nat, T ≤ 16 ∧ r 61 (13400 * i + 1) = nI T ∧ b_H B T (d.2.2.2.1 i) (d.2.2.2.2 i) (b_im (r 61) i))
/-- class and reference agree, B calls after their birth -/
def b_R (B : Nat) (gC : cm_M) (gR : jm_M) : Prop := ∃ M T N : Nat, b_T M T N gC.2.2 gR ∧ b_X M T N gR ∧ b_ties N gC.2.2 gR ∧ b_H B T gC.1.2.1 gC.2.2 gR ∧ b_W T gC.2.2 gR ∧ b_P M gC.2.2 gR ∧ b_A gC.2.2 ∧ b_I B gC.1 gC.2.2 gR
/-! numbers -/
theorem ni_le {x : Int32} {n : Nat} (hn : n < 2 ^ 31) (h0 : ¬ x < 0) (h : ¬ nI n ≤ x) : ∃ i : Nat, i < n ∧ x = nI i := by
  obtain ⟨j, hj, rfl⟩ := nI_of h0
  refine ⟨j, ?_, rfl⟩
  rcases Nat.lt_or_ge j n with q | q
  · exact q
  · exact absurd (nI_le q hj) h
theorem ni_in {x : Int32} {n : Nat} (hn : n < 2 ^ 31) : (x < 0 ∨ nI n ≤ x) ∨ ∃ i : Nat, i < n ∧ x = nI i := by
  by_cases h0 : x < 0
  · exact Or.inl (Or.inl h0)
  · by_cases h : nI n ≤ x
    · exact Or.inl (Or.inr h)
    · exact Or.inr (ni_le hn h0 h)
theorem ni_sub1 {n : Nat} (hn : n < 2 ^ 31) (x : Int32) : nI n - 1 < x ↔ nI n ≤ x := by
  rw [Int32.lt_iff_toInt_lt, Int32.le_iff_toInt_le]
  have h1 : (nI n - 1).toInt = (n : Int) - 1 := by
    have h2 : (nI n).toInt = (n : Int) := nI_toInt hn
    rw [Int32.toInt_sub, h2]
    have h3 : (1 : Int32).toInt = 1 := by decide
    rw [h3]
    rw [Int.bmod_eq_of_le] <;> omega
  rw [h1, nI_toInt hn]
  omega
/-- what 'in' answers -/
theorem vr_in_iff (a lo hi : Int32) (g : jm_M) (P : Int32 → Prop) : vr_in a lo hi g P ↔ P (if a < lo ∨ hi < a then 0 else 1) := by
  unfold vr_in
  by_cases h1 : a < lo
  · simp [h1]
  · by_cases h2 : hi < a
    · simp [h1, h2]
    · simp [h1, h2]
theorem vr_idx {a : Int32} {n : Nat} (hn : n < 2 ^ 31) (g : jm_M) (P : Int32 → Prop) {x : Int32} (hx : x = nI n) : vr_in a 0 (x - 1) g P ↔ P (if a < 0 ∨ nI n ≤ a then 0 else 1) := by
  subst hx
  rw [vr_in_iff]
  simp only [ni_sub1 hn]
theorem b01 {c : Prop} [Decidable c] : jj_nb (if c then 0 else 1) := by
  by_cases h : c <;> simp [h, jj_nb0, jj_nb1]
theorem vr_isModule_iff {M : Nat} (hM : M ≤ 10) {g : jm_M} (h : g 1 0 = nI M) (a : Int32) (P : Int32 → Prop) : vr_isModule a g P ↔ P (if a < 0 ∨ nI M ≤ a then 0 else 1) := by
  unfold vr_isModule
  rw [vr_idx (by omega) g _ h]
  simp [b01]
theorem vr_isTable_iff {T : Nat} (hT : T ≤ 16) {g : jm_M} (h : g 3 0 = nI T) (a : Int32) (P : Int32 → Prop) : vr_isTable a g P ↔ P (if a < 0 ∨ nI T ≤ a then 0 else 1) := by
  unfold vr_isTable
  rw [vr_idx (by omega) g _ h]
  simp [b01]
theorem vr_isRoutine_iff {N : Nat} (hN : N ≤ 40) {g : jm_M} (h : g 5 0 = nI N) (a : Int32) (P : Int32 → Prop) : vr_isRoutine a g P ↔ P (if a < 0 ∨ nI N ≤ a then 0 else 1) := by
  unfold vr_isRoutine
  rw [vr_idx (by omega) g _ h]
  simp [b01]
theorem vc_hasModule_iff {M : Nat} {g : cm_M} (h : g.2.2 12 0 = nI M) (a : Int32) (P : Int32 → Prop) : vc_X9_hasModule a g P ↔ P (if a < 0 ∨ nI M ≤ a then 0 else 1) := by
  unfold vc_X9_hasModule
  rw [h]
  by_cases h1 : a < 0
  · simp [h1]
  · by_cases h2 : nI M ≤ a <;> simp [h1, h2]
theorem vc_hasTable_iff {T : Nat} {g : cm_M} (h : g.2.2 13 0 = nI T) (a : Int32) (P : Int32 → Prop) : vc_X9_hasTable a g P ↔ P (if a < 0 ∨ nI T ≤ a then 0 else 1) := by
  unfold vc_X9_hasTable
  rw [h]
  by_cases h1 : a < 0
  · simp [h1]
  · by_cases h2 : nI T ≤ a <;> simp [h1, h2]
theorem vc_hasRoutine_iff {N : Nat} {g : cm_M} (h : g.2.2 14 0 = nI N) (a : Int32) (P : Int32 → Prop) : vc_X9_hasRoutine a g P ↔ P (if a < 0 ∨ nI N ≤ a then 0 else 1) := by
  unfold vc_X9_hasRoutine
  rw [h]
  by_cases h1 : a < 0
  · simp [h1]
  · by_cases h2 : nI N ≤ a <;> simp [h1, h2]
theorem vc_hasCell_iff {T : Nat} {g : cm_M} (h : g.2.2 13 0 = nI T) (a b : Int32) (P : Int32 → Prop) : vc_X9_hasCell a b g P ↔ P (if (a < 0 ∨ nI T ≤ a) ∨ (b < 0 ∨ 7 < b) then 0 else 1) := by
  unfold vc_X9_hasCell
  rw [vc_hasTable_iff h]
  have e : (8 : Int32) ≤ b ↔ 7 < b := by
    rw [Int32.le_iff_toInt_le, Int32.lt_iff_toInt_lt]
    have h8 : (8 : Int32).toInt = 8 := by decide
    have h7 : (7 : Int32).toInt = 7 := by decide
    rw [h8, h7]; omega
  have e2 : b < 8 ↔ ¬ 7 < b := by
    rw [← e, Int32.not_le]
  by_cases h1 : a < 0 ∨ nI T ≤ a
  · simp [h1]
  · by_cases h2 : b < 0
    · simp [h1, h2]
    · by_cases h3 : 7 < b
      · simp [h1, h2, h3, e, e2]
      · simp [h1, h2, h3, e, e2]
