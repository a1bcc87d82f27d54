/-! sums -/
def sS (f : Nat → Nat) : Nat → Nat
  | 0 => 0
  | n + 1 => sS f n + f n
theorem sS_ext {f g : Nat → Nat} : ∀ n, (∀ i, i < n → f i = g i) → sS f n = sS g n
  | 0, _ => rfl
  | n + 1, h => by
    show sS f n + f n = sS g n + g n
    rw [sS_ext n (fun i hi => h i (by omega)), h n (Nat.lt_succ_self n)]
theorem sS_0 {f : Nat → Nat} : ∀ n, (∀ i, i < n → f i = 0) → sS f n = 0
  | 0, _ => rfl
  | n + 1, h => by
    show sS f n + f n = 0
    rw [sS_0 n (fun i hi => h i (by omega)), h n (Nat.lt_succ_self n)]
theorem sS_add (f g : Nat → Nat) : ∀ n, sS (fun i => f i + g i) n = sS f n + sS g n
  | 0 => rfl
  | n + 1 => by
    show sS (fun i => f i + g i) n + (f n + g n) = (sS f n + f n) + (sS g n + g n)
    rw [sS_add f g n]; omega
theorem sS_mul (c : Nat) (f : Nat → Nat) : ∀ n, sS (fun i => c * f i) n = c * sS f n
  | 0 => rfl
  | n + 1 => by
    show sS (fun i => c * f i) n + c * f n = c * (sS f n + f n)
    rw [sS_mul c f n, Nat.mul_add]
theorem sS_swap (f : Nat → Nat → Nat) (m : Nat) : ∀ n, sS (fun i => sS (fun j => f i j) m) n = sS (fun j => sS (fun i => f i j) n) m
  | 0 => (sS_0 m (fun _ _ => rfl)).symm
  | n + 1 => by
    show sS (fun i => sS (fun j => f i j) m) n + sS (fun j => f n j) m = sS (fun j => sS (fun i => f i j) n + f n j) m
    rw [sS_swap f m n, sS_add]
theorem sS_one (f : Nat → Nat) (k : Nat) : ∀ n, sS (fun i => if k = i then f i else 0) n = if k < n then f k else 0
  | 0 => by rw [if_neg (Nat.not_lt_zero k)]; rfl
  | n + 1 => by
    show sS (fun i => if k = i then f i else 0) n + (if k = n then f n else 0) = _
    rw [sS_one f k n]
    by_cases h : k = n
    · subst h; rw [if_neg (Nat.lt_irrefl k), if_pos rfl, if_pos (Nat.lt_succ_self k), Nat.zero_add]
    · by_cases h2 : k < n
      · rw [if_pos h2, if_neg h, if_pos (by omega), Nat.add_zero]
      · rw [if_neg h2, if_neg h, if_neg (by omega)]
theorem sS_le {f : Nat → Nat} {b : Nat} : ∀ n, (∀ i, i < n → f i ≤ b) → sS f n ≤ n * b
  | 0, _ => Nat.zero_le _
  | n + 1, h => by
    show sS f n + f n ≤ (n + 1) * b
    have h1 := sS_le n (fun i hi => h i (by omega))
    have h2 := h n (Nat.lt_succ_self n)
    rw [Nat.succ_mul]; omega
theorem sS_ge {f : Nat → Nat} : ∀ n k, k ≤ n → sS f k ≤ sS f n
  | 0, k, h => by obtain rfl : k = 0 := by omega
                  exact Nat.le_refl _
  | n + 1, k, h => by
    by_cases e : k = n + 1
    · subst e; exact Nat.le_refl _
    · have := sS_ge (f := f) n k (by omega)
      show _ ≤ sS f n + f n
      omega
/-! the price of rooms p of the first n modules -/
def q_v (x : Int32) : Nat := x.toNatClampNeg
def q_ca (r : jm_M) (a b : Nat) : Nat := q_v (r 31 0) * q_v (r 24 (10 * a + b))
def q_ta (r : jm_M) (a t : Nat) : Nat := q_v (r 31 1) * q_v (r 25 (16 * a + t)) + q_v (r 31 2) * q_v (r 26 (16 * a + t))
def q_E (r : jm_M) (T a b : Nat) : Nat := q_ca r a b + sS (fun t => if q_v (r 4 t) = b then q_ta r a t else 0) T
def q_pe (r : jm_M) (T : Nat) (p : Nat → Nat) (n : Nat) : Nat := sS (fun a => sS (fun b => if p a = p b then 0 else q_E r T a b) n) n
def q_nw (z : Nat) (p : Nat → Nat) (n : Nat) : Prop := z.testBit n = true ∧ ∀ m, m < n → z.testBit m = true → p m ≠ p n
noncomputable def q_mn (z : Nat) (p : Nat → Nat) : Nat → Nat
  | 0 => 0
  | n + 1 => q_mn z p n + (@ite Nat (q_nw z p n) (Classical.propDecidable _) 1 0)
noncomputable def q_ps (r : jm_M) (p : Nat → Nat) (n : Nat) : Nat := sS (fun z => q_v (r 31 3) * q_v (r 27 z) * (q_mn z p n - 1)) 1024
noncomputable def q_pr (r : jm_M) (T : Nat) (p : Nat → Nat) (n : Nat) : Nat := q_pe r T p n + q_ps r p n
theorem mn_yes {z n : Nat} {p : Nat → Nat} (h : q_nw z p n) : q_mn z p (n + 1) = q_mn z p n + 1 := by
  show q_mn z p n + (@ite Nat (q_nw z p n) (Classical.propDecidable _) 1 0) = _
  rw [if_pos h]
theorem mn_no {z n : Nat} {p : Nat → Nat} (h : ¬ q_nw z p n) : q_mn z p (n + 1) = q_mn z p n := by
  show q_mn z p n + (@ite Nat (q_nw z p n) (Classical.propDecidable _) 1 0) = _
  rw [if_neg h]; rfl
theorem mn_le (z : Nat) (p : Nat → Nat) : ∀ n, q_mn z p n ≤ n
  | 0 => Nat.le_refl _
  | n + 1 => by
    have := mn_le z p n
    rcases Classical.em (q_nw z p n) with h | h
    · rw [mn_yes h]; omega
    · rw [mn_no h]; omega
theorem mn_pos (z : Nat) (p : Nat → Nat) : ∀ n, 0 < q_mn z p n ↔ ∃ m, m < n ∧ z.testBit m = true
  | 0 => ⟨fun h => absurd h (Nat.lt_irrefl 0), fun ⟨m, hm, _⟩ => absurd hm (Nat.not_lt_zero m)⟩
  | n + 1 => by
    have ih := mn_pos z p n
    rcases Classical.em (q_nw z p n) with h | h
    · rw [mn_yes h]
      exact ⟨fun _ => ⟨n, Nat.lt_succ_self n, h.1⟩, fun _ => by omega⟩
    · rw [mn_no h, ih]
      refine ⟨fun ⟨m, h1, h2⟩ => ⟨m, by omega, h2⟩, fun ⟨m, h1, h2⟩ => ?_⟩
      by_cases e : m = n
      · subst e
        rcases Classical.em (∃ k, k < m ∧ z.testBit k = true) with q | q
        · exact q
        · exact absurd ⟨h2, fun k hk hz => absurd ⟨k, hk, hz⟩ q⟩ h
      · exact ⟨m, by omega, h2⟩
theorem mn_0 (p : Nat → Nat) (n : Nat) : q_mn 0 p n = 0 := by
  rcases Nat.eq_zero_or_pos (q_mn 0 p n) with h | h
  · exact h
  · obtain ⟨m, _, hm⟩ := (mn_pos 0 p n).mp h
    rw [Nat.zero_testBit] at hm
    exact absurd hm (by decide)
/-- one and the same pattern of rooms: one and the same number -/
theorem mn_ext (z : Nat) {p q : Nat → Nat} : ∀ n, (∀ a b, a < n → b < n → (p a = p b ↔ q a = q b)) → q_mn z p n = q_mn z q n
  | 0, _ => rfl
  | n + 1, h => by
    have ih := mn_ext z n (fun a b ha hb => h a b (by omega) (by omega))
    have e : q_nw z p n ↔ q_nw z q n := by
      refine ⟨fun w => ⟨w.1, fun m hm hz e => w.2 m hm hz ((h m n (by omega) (by omega)).mpr e)⟩, fun w => ⟨w.1, fun m hm hz e => w.2 m hm hz ((h m n (by omega) (by omega)).mp e)⟩⟩
    rcases Classical.em (q_nw z p n) with w | w
    · rw [mn_yes w, mn_yes (e.mp w), ih]
    · rw [mn_no w, mn_no (fun u => w (e.mpr u)), ih]
theorem pe_ext (r : jm_M) (T : Nat) {p q : Nat → Nat} (n : Nat) (h : ∀ a b, a < n → b < n → (p a = p b ↔ q a = q b)) : q_pe r T p n = q_pe r T q n := by
  refine sS_ext n (fun a ha => sS_ext n (fun b hb => ?_))
  by_cases e : p a = p b
  · rw [if_pos e, if_pos ((h a b ha hb).mp e)]
  · rw [if_neg e, if_neg (fun w => e ((h a b ha hb).mpr w))]
theorem pr_ext (r : jm_M) (T : Nat) {p q : Nat → Nat} (n : Nat) (h : ∀ a b, a < n → b < n → (p a = p b ↔ q a = q b)) : q_pr r T p n = q_pr r T q n := by
  unfold q_pr q_ps
  have e : sS (fun z => q_v (r 31 3) * q_v (r 27 z) * (q_mn z p n - 1)) 1024 = sS (fun z => q_v (r 31 3) * q_v (r 27 z) * (q_mn z q n - 1)) 1024 := sS_ext 1024 (fun z _ => by rw [mn_ext z n h])
  rw [pe_ext r T n h, e]
/-- what module n adds -/
def q_ae (r : jm_M) (T : Nat) (p : Nat → Nat) (n : Nat) : Nat := sS (fun b => if p n = p b then 0 else q_E r T n b + q_E r T b n) n
theorem pe_add (r : jm_M) (T : Nat) (p : Nat → Nat) (n : Nat) : q_pe r T p (n + 1) = q_pe r T p n + q_ae r T p n := by
  unfold q_pe q_ae
  show sS (fun a => sS (fun b => if p a = p b then 0 else q_E r T a b) n + (if p a = p n then 0 else q_E r T a n)) n + (sS (fun b => if p n = p b then 0 else q_E r T n b) n + (if p n = p n then 0 else q_E r T n n)) = _
  rw [sS_add, if_pos rfl, Nat.add_zero, Nat.add_assoc, ← sS_add]
  congr 1
  refine sS_ext n (fun b _ => ?_)
  by_cases e : p b = p n
  · rw [if_pos e, if_pos e.symm, if_pos e.symm]
  · rw [if_neg e, if_neg (fun w => e w.symm), if_neg (fun w => e w.symm), Nat.add_comm]
theorem pe_sum (r : jm_M) (T : Nat) (p : Nat → Nat) : ∀ n, q_pe r T p n = sS (q_ae r T p) n
  | 0 => rfl
  | n + 1 => by rw [pe_add, pe_sum r T p n]; rfl
theorem mn_step (z : Nat) (p : Nat → Nat) (n : Nat) : q_mn z p (n + 1) - 1 = (q_mn z p n - 1) + @ite Nat (q_nw z p n ∧ ∃ m, m < n ∧ z.testBit m = true) (Classical.propDecidable _) 1 0 := by
  have hp := mn_pos z p n
  rcases Classical.em (q_nw z p n) with w | w
  · rw [mn_yes w]
    rcases Classical.em (∃ m, m < n ∧ z.testBit m = true) with u | u
    · rw [if_pos ⟨w, u⟩]; have := hp.mpr u; omega
    · rw [if_neg (fun q => u q.2)]
      have : ¬ 0 < q_mn z p n := fun q => u (hp.mp q)
      omega
  · rw [mn_no w, if_neg (fun q => w q.1)]; rfl
/-- the reference's two sums -/
theorem pe_ref (r : jm_M) (T : Nat) (p : Nat → Nat) (n : Nat) : sS (fun a => sS (fun b => if p a = p b then 0 else q_ca r a b) n) n + sS (fun a => sS (fun t => if n ≤ q_v (r 4 t) ∨ p a = p (q_v (r 4 t)) then 0 else q_ta r a t) T) n = q_pe r T p n := by
  rw [← sS_add]
  refine sS_ext n (fun a _ => ?_)
  have e1 : sS (fun t => if n ≤ q_v (r 4 t) ∨ p a = p (q_v (r 4 t)) then 0 else q_ta r a t) T = sS (fun b => sS (fun t => if q_v (r 4 t) = b then (if p a = p b then 0 else q_ta r a t) else 0) T) n := by
    rw [sS_swap]
    refine sS_ext T (fun t _ => ?_)
    rw [sS_one (fun b => if p a = p b then 0 else q_ta r a t) (q_v (r 4 t)) n]
    by_cases h : q_v (r 4 t) < n
    · rw [if_pos h]
      by_cases h2 : p a = p (q_v (r 4 t))
      · rw [if_pos (Or.inr h2), if_pos h2]
      · rw [if_neg (fun w => by rcases w with w | w; omega; exact h2 w), if_neg h2]
    · rw [if_neg h, if_pos (Or.inl (by omega))]
  rw [e1, ← sS_add]
  refine sS_ext n (fun b _ => ?_)
  by_cases h : p a = p b
  · rw [if_pos h, if_pos h, Nat.zero_add]
    exact sS_0 T (fun t _ => by by_cases h2 : q_v (r 4 t) = b <;> simp [h, h2])
  · rw [if_neg h, if_neg h]
    unfold q_E
    congr 1
    refine sS_ext T (fun t _ => ?_)
    rw [if_neg h]
/-- the class's sets -/
theorem ps_list {K : Nat} {mask acts : Nat → Nat} {sets F : Nat → Nat} (w : Nat) (h1 : ∀ i, i < K → mask i < 1024) (h2 : ∀ i, i < K → mask i ≠ 0 → sets (mask i) = acts i) (h3 : ∀ i j, i < j → j < K → mask i ≠ mask j) (h4 : ∀ z, z ≠ 0 → z < 1024 → (∀ i, i < K → mask i ≠ z) → sets z = 0) (hF : F 0 = 0) : sS (fun z => w * sets z * F z) 1024 = sS (fun i => acts i * w * F (mask i)) K := by
  have e1 : ∀ z, z ≠ 0 → z < 1024 → sets z = sS (fun i => if mask i = z then acts i else 0) K := by
    intro z hz hz2
    rcases Classical.em (∃ i, i < K ∧ mask i = z) with ⟨i, hi, hm⟩ | q
    · have : sS (fun j => if mask j = z then acts j else 0) K = sS (fun j => if i = j then acts j else 0) K := by
        refine sS_ext K (fun j hj => ?_)
        by_cases e : i = j
        · subst e; rw [if_pos hm, if_pos rfl]
        · rw [if_neg e, if_neg (fun w2 => ?_)]
          rcases Nat.lt_or_ge i j with u | u
          · exact h3 i j u hj (hm.trans w2.symm)
          · exact h3 j i (by omega) hi (w2.trans hm.symm)
      rw [this, sS_one, if_pos hi, ← hm]
      exact h2 i hi (by rw [hm]; exact hz)
    · rw [h4 z hz hz2 (fun i hi e => q ⟨i, hi, e⟩)]
      exact (sS_0 K (fun i hi => if_neg (fun e => q ⟨i, hi, e⟩))).symm
  have e2 : sS (fun z => w * sets z * F z) 1024 = sS (fun z => sS (fun i => if mask i = z then acts i * w * F z else 0) K) 1024 := by
    refine sS_ext 1024 (fun z hz => ?_)
    by_cases q : z = 0
    · subst q
      rw [hF, Nat.mul_zero]
      exact (sS_0 K (fun i _ => by rw [Nat.mul_zero]; exact ite_self 0)).symm
    · rw [e1 z q hz]
      have : sS (fun i => if mask i = z then acts i * w * F z else 0) K = sS (fun i => (w * F z) * (if mask i = z then acts i else 0)) K := by
        refine sS_ext K (fun i _ => ?_)
        by_cases e : mask i = z
        · rw [if_pos e, if_pos e, Nat.mul_comm (w * F z), Nat.mul_assoc]
        · rw [if_neg e, if_neg e, Nat.mul_zero]
      rw [this, sS_mul, Nat.mul_right_comm]
  rw [e2, sS_swap]
  refine sS_ext K (fun i hi => ?_)
  rw [sS_one (fun z => acts i * w * F z) (mask i) 1024, if_pos (h1 i hi)]
