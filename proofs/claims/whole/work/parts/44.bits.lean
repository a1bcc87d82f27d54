/-! bits of small numbers -/
theorem nI_bv (a : Nat) : (nI a).toBitVec = BitVec.ofNat 32 a := rfl
theorem nI_or (a b : Nat) : nI a ||| nI b = nI (a ||| b) := by
  apply Int32.toBitVec_inj.mp
  rw [Int32.toBitVec_or, nI_bv, nI_bv, nI_bv]
  exact (BitVec.ofNat_or).symm
theorem nI_and (a b : Nat) : nI a &&& nI b = nI (a &&& b) := by
  apply Int32.toBitVec_inj.mp
  rw [Int32.toBitVec_and, nI_bv, nI_bv, nI_bv]
  exact (BitVec.ofNat_and).symm
theorem nI_31 {i : Nat} (h : i < 32) : nI i &&& 31 = nI i := by
  rw [pk_andN (by omega) 5 (by decide), Nat.mod_eq_of_lt (by omega)]
theorem nI_smod : ∀ i : Fin 32, ((nI i.val).toBitVec.smod 32).toNat = i.val := by decide +kernel
theorem nI_shr {n i : Nat} (hn : n < 2 ^ 31) (h : i < 32) : nI n >>> (nI i &&& 31) = nI (n / 2 ^ i) := by
  rw [nI_31 h]
  exact pk_shrN hn (nI i) i (nI_smod ⟨i, h⟩)
theorem nI_shl1 {i : Nat} (h : i < 31) : (1 : Int32) <<< (nI i &&& 31) = nI (2 ^ i) := by
  rw [nI_31 (by omega)]
  have h2 : 1 * 2 ^ i < 2 ^ 32 := by
    rw [Nat.one_mul]; exact Nat.pow_lt_pow_right (by omega) (by omega)
  have := pk_shlN (n := 1) (nI i) i (nI_smod ⟨i, by omega⟩) h2
  rw [Nat.one_mul] at this
  exact this
theorem nI_bit {n i : Nat} (hn : n < 2 ^ 31) (h : i < 32) : (nI n >>> (nI i &&& 31)) &&& 1 = 0 ↔ n.testBit i = false := by
  rw [nI_shr hn h]
  have hq : n / 2 ^ i < 2 ^ 31 := Nat.lt_of_le_of_lt (Nat.div_le_self _ _) hn
  rw [pk_andN (by omega) 1 (by decide), Nat.testBit_eq_decide_div_mod_eq]
  rw [show (0 : Int32) = nI 0 from rfl, nI_eq (by omega) (by omega)]
  simp
theorem nI_not {n : Nat} (hn : n < 2 ^ 31) (a : Nat) : nI a &&& (nI n ^^^ (-1)) = nI (a &&& (2 ^ 32 - 1 - n)) := by
  apply Int32.toBitVec_inj.mp
  rw [Int32.toBitVec_and, Int32.toBitVec_xor, nI_bv, nI_bv, nI_bv, BitVec.ofNat_and]
  congr 1
  have e : (-1 : Int32).toBitVec = BitVec.allOnes 32 := by decide
  rw [e, BitVec.xor_allOnes]
  apply BitVec.eq_of_toNat_eq
  rw [BitVec.toNat_not, BitVec.toNat_ofNat, BitVec.toNat_ofNat]
  have : n % 2 ^ 32 = n := Nat.mod_eq_of_lt (by omega)
  rw [this, Nat.mod_eq_of_lt (by omega)]
/-- a mask without another: empty just if each bit of the one is one of the other -/
theorem nI_sub0 {n a : Nat} (hn : n < 2 ^ 31) (ha : a < 2 ^ 31) : nI a &&& (nI n ^^^ (-1)) = 0 ↔ ∀ i, a.testBit i = true → n.testBit i = true := by
  rw [nI_not hn, show (0 : Int32) = nI 0 from rfl, nI_eq (Nat.lt_of_le_of_lt Nat.and_le_left ha) (by omega)]
  have tb : ∀ i, (2 ^ 32 - 1 - n).testBit i = (decide (i < 32) && !n.testBit i) := fun i => by
    rw [show 2 ^ 32 - 1 - n = 2 ^ 32 - (n + 1) from by omega]
    exact Nat.testBit_two_pow_sub_succ (by omega) i
  constructor
  · intro h i hi
    have h2 : (a &&& (2 ^ 32 - 1 - n)).testBit i = false := by rw [h]; exact Nat.zero_testBit i
    rw [Nat.testBit_and, hi, tb i] at h2
    have hi32 : i < 32 := by
      rcases Nat.lt_or_ge i 32 with q | q
      · exact q
      · have : a.testBit i = false := Nat.testBit_lt_two_pow (Nat.lt_of_lt_of_le ha (Nat.pow_le_pow_right (by omega) (by omega)))
        rw [this] at hi; exact absurd hi (by decide)
    simpa [hi32] using h2
  · intro h
    apply Nat.eq_of_testBit_eq
    intro i
    rw [Nat.testBit_and, Nat.zero_testBit, tb i]
    cases hb : a.testBit i with
    | false => rfl
    | true => rw [h i hb]; simp
theorem nI_and0 {n a : Nat} (hn : n < 2 ^ 31) : nI a &&& nI n = 0 ↔ ∀ i, a.testBit i = true → n.testBit i = true → False := by
  rw [nI_and, show (0 : Int32) = nI 0 from rfl, nI_eq (Nat.lt_of_le_of_lt Nat.and_le_right hn) (by omega)]
  constructor
  · intro h i h1 h2
    have h3 : (a &&& n).testBit i = false := by rw [h]; exact Nat.zero_testBit i
    rw [Nat.testBit_and, h1, h2] at h3
    exact absurd h3 (by decide)
  · intro h
    apply Nat.eq_of_testBit_eq
    intro i
    rw [Nat.testBit_and, Nat.zero_testBit]
    cases hb : a.testBit i with
    | false => rfl
    | true =>
      cases hc : n.testBit i with
      | false => rfl
      | true => exact (h i hb hc).elim
theorem or_lt {a b n : Nat} (ha : a < 2 ^ n) (hb : b < 2 ^ n) : a ||| b < 2 ^ n := Nat.or_lt_two_pow ha hb
/-- one more bit -/
theorem tb_or1 (a i j : Nat) : (a ||| 2 ^ i).testBit j = (a.testBit j || decide (i = j)) := by
  rw [Nat.testBit_or, Nat.testBit_two_pow]
