/-! laws: what a cell holds when some letters have come, and the sum of a law -/
/-- of the first n letters gathered, the latest that has come to the cell; else the house's own -/
def b_va (c : jm_M) (kk cell come : Nat) : Nat → Int32
  | 0 => c kk cell
  | n + 1 => if c 64 n = nI cell ∧ come.testBit n = true then c 65 n else b_va c kk cell come n
theorem va_loop {g : cm_M} {kk cell come : Nat} (hc : cell < 128) (hcome : come < 2 ^ 31) (P Post : Int32 → Prop) : ∀ n, n ≤ 6 → P (b_va g.2.2 kk cell come n) → vc_X1_valueAfter_8 kk (nI cell) (nI come) g (fun (y5 : Int32) => (vp_in y5 6) ∧ (P (g.2.2 65 y5.toNatClampNeg))) ((vp_in (nI cell) 128) ∧ (P (g.2.2 kk (nI cell).toNatClampNeg))) Post (n + 1) (nI n - 1)
  | 0, _, hp => by
    unfold vc_X1_valueAfter_8
    refine ⟨fun _ => ⟨vp_in_nI hc (by omega), ?_⟩, fun q => absurd (by decide) q⟩
    rw [tn_nI (by omega)]; exact hp
  | n + 1, hn, hp => by
    rw [nI_pred]
    have t1 : (nI n).toNatClampNeg = n := tn_nI (by omega)
    have i1 : vp_in (nI n) 6 := vp_in_nI (by omega) (by omega)
    unfold vc_X1_valueAfter_8
    rw [t1]
    have em : nI n + (-1) = nI n - 1 := (Int32.sub_eq_add_neg (nI n) 1).symm
    have hb : ((nI come >>> (nI n &&& 31)) &&& 1) = 0 ↔ come.testBit n = false := nI_bit hcome (by omega)
    refine ⟨fun q => absurd q (nI_pos (by omega)), fun _ => ⟨i1, fun q => ?_, fun q => ⟨fun q2 => ?_, fun q2 => ⟨i1, ?_⟩⟩⟩⟩
    · rw [b_va, if_neg (fun w => q w.1)] at hp
      rw [em]; exact va_loop hc hcome P Post n (by omega) hp
    · rw [b_va, if_neg (fun w => by rw [hb.mp q2] at w; exact absurd w.2 (by decide))] at hp
      rw [em]; exact va_loop hc hcome P Post n (by omega) hp
    · rw [b_va, if_pos ⟨q, by
        cases w : come.testBit n with
        | true => rfl
        | false => exact absurd (hb.mpr w) q2⟩] at hp
      exact hp
theorem va_of {g : cm_M} {kk cell come z : Nat} (hc : cell < 128) (hcome : come < 2 ^ 31) (hz : z ≤ 6) (e67 : g.2.2 67 0 = nI z) (P : Int32 → Prop) (hp : P (b_va g.2.2 kk cell come z)) : vc_X1_valueAfter kk (nI cell) (nI come) g P := by
  unfold vc_X1_valueAfter
  rw [e67]
  exact nm_e ⟨z + 1, va_loop hc hcome P P z hz hp⟩
/-- a law's sum over its first n terms, the cells' values given -/
def b_sm (fa va : Nat → Int32) : Nat → Int64
  | 0 => 0
  | n + 1 => b_sm fa va n + (fa n).toInt64 * (va n).toInt64
theorem b_sm_ext {fa va fa2 va2 : Nat → Int32} : ∀ n, (∀ i, i < n → fa i = fa2 i) → (∀ i, i < n → va i = va2 i) → b_sm fa va n = b_sm fa2 va2 n
  | 0, _, _ => rfl
  | n + 1, h1, h2 => by rw [b_sm, b_sm, b_sm_ext n (fun i hi => h1 i (by omega)) (fun i hi => h2 i (by omega)), h1 n (by omega), h2 n (by omega)]
/-- whether a law stands: 1 or 0 -/
def b_st (fa va : Nat → Int32) (n : Nat) (least : Int32) : Int32 := if lg_cmp (b_sm fa va n) least.toInt64 < 0 then 0 else 1
theorem b_st_nb (fa va : Nat → Int32) (n : Nat) (least : Int32) : jj_nb (b_st fa va n least) := by
  unfold b_st; split
  · exact jj_nb0
  · exact jj_nb1
theorem sa_loop {g : cm_M} {kk l come z t : Nat} (hl : l < 10) (ht : t ≤ 6) (e55 : g.2.2 55 l = nI t) (hc : ∀ j, j < t → ∃ k : Nat, k < 128 ∧ g.2.2 57 (6 * l + j) = nI k) (hcome : come < 2 ^ 31) (hz : z ≤ 6) (e67 : g.2.2 67 0 = nI z) (K : Int64 → Prop) (Post : Int32 → Prop) (hK : K (b_sm (fun j => g.2.2 58 (6 * l + j)) (fun j => b_va g.2.2 kk (g.2.2 57 (6 * l + j)).toNatClampNeg come z) t)) : ∀ d i, i + d = t → vc_X5_standsAfter_6 kk (nI l) (nI come) g K Post (d + 1) (b_sm (fun j => g.2.2 58 (6 * l + j)) (fun j => b_va g.2.2 kk (g.2.2 57 (6 * l + j)).toNatClampNeg come z) i) (nI i)
  | 0, i, hi => by
    obtain rfl : i = t := by omega
    have t1 : (nI l).toNatClampNeg = l := tn_nI (by omega)
    unfold vc_X5_standsAfter_6
    rw [t1, e55]
    exact ⟨vp_in_nI (by omega) (by omega), fun _ => hK, fun q => absurd (nI_le (Nat.le_refl _) (by omega)) q⟩
  | d + 1, i, hi => by
    have t1 : (nI l).toNatClampNeg = l := tn_nI (by omega)
    have t2 : (nI (6 * l + i)).toNatClampNeg = 6 * l + i := tn_nI (by omega)
    have i2 : vp_in (nI (6 * l + i)) 60 := vp_in_nI (by omega) (by omega)
    have y1 : nI l * 6 + nI i = nI (6 * l + i) := ij' (k := 6) (by omega)
    obtain ⟨k, hk, ek⟩ := hc i (by omega)
    unfold vc_X5_standsAfter_6
    rw [t1, e55, y1]
    refine ⟨vp_in_nI (by omega) (by omega), fun q => absurd q (nI_ge (by omega) (by omega)), fun _ => nm_e ⟨i2, i2, ?_⟩⟩
    rw [t2, ek]
    refine va_of hk hcome hz e67 _ (nm_e ?_)
    have ih := sa_loop hl ht e55 hc hcome hz e67 K Post hK d (i + 1) (by omega)
    rw [nI_1]
    rw [b_sm, ek, tn_nI (by omega)] at ih
    exact ih
theorem sa_of {g : cm_M} {kk l come z t : Nat} (hl : l < 10) (ht : t ≤ 6) (e55 : g.2.2 55 l = nI t) (hc : ∀ j, j < t → ∃ k : Nat, k < 128 ∧ g.2.2 57 (6 * l + j) = nI k) (hcome : come < 2 ^ 31) (hz : z ≤ 6) (e67 : g.2.2 67 0 = nI z) (P : Int32 → Prop) (hp : P (b_st (fun j => g.2.2 58 (6 * l + j)) (fun j => b_va g.2.2 kk (g.2.2 57 (6 * l + j)).toNatClampNeg come z) t (g.2.2 56 l))) : vc_X5_standsAfter kk (nI l) (nI come) g P := by
  refine ⟨t + 1, sa_loop hl ht e55 hc hcome hz e67 _ _ ⟨vp_in_nI (by omega) (by omega), ?_⟩ t 0 (by omega)⟩
  rw [tn_nI (by omega)]
  unfold b_st at hp
  exact ⟨fun q => by rw [if_pos q] at hp; exact hp, fun q => by rw [if_neg q] at hp; exact hp⟩
theorem dh_loop {g : jm_M} {kk l t : Nat} (hl : l < 10) (ht : t ≤ 6) (e48 : g 48 l = nI t) (hc : ∀ j, j < t → ∃ k : Nat, k < 128 ∧ g 49 (6 * l + j) = nI k) (K : Int64 → Prop) (Post : Int32 → Prop) (hK : K (b_sm (fun j => g 50 (6 * l + j)) (fun j => g kk (g 49 (6 * l + j)).toNatClampNeg) t)) : ∀ d i, i + d = t → vr_doesHold_8 kk (nI l) g K Post (d + 1) (b_sm (fun j => g 50 (6 * l + j)) (fun j => g kk (g 49 (6 * l + j)).toNatClampNeg) i) (nI (6 * l + i))
  | 0, i, hi => by
    obtain rfl : i = t := by omega
    have t1 : (nI l).toNatClampNeg = l := tn_nI (by omega)
    have y1 : (6 : Int32) * nI l + nI i = nI (6 * l + i) := ij (k := 6) (by omega)
    unfold vr_doesHold_8
    rw [t1, e48, y1]
    exact ⟨vp_in_nI (by omega) (by omega), fun _ => hK, fun q => absurd (nI_le (Nat.le_refl _) (by omega)) q⟩
  | d + 1, i, hi => by
    have t1 : (nI l).toNatClampNeg = l := tn_nI (by omega)
    have t2 : (nI (6 * l + i)).toNatClampNeg = 6 * l + i := tn_nI (by omega)
    have i2 : vp_in (nI (6 * l + i)) 60 := vp_in_nI (by omega) (by omega)
    have y1 : (6 : Int32) * nI l + nI t = nI (6 * l + t) := ij (k := 6) (by omega)
    obtain ⟨k, hk, ek⟩ := hc i (by omega)
    unfold vr_doesHold_8
    rw [t1, e48, y1, t2, ek]
    refine ⟨vp_in_nI (by omega) (by omega), fun q => absurd q (nI_ge (by omega) (by omega)), fun _ => ⟨i2, i2, vp_in_nI hk (by omega), nm_e ?_⟩⟩
    have ih := dh_loop hl ht e48 hc K Post hK d (i + 1) (by omega)
    rw [nI_1]
    rw [b_sm, ek] at ih
    exact ih
theorem dh_of {g : jm_M} {kk l t : Nat} (hl : l < 10) (ht : t ≤ 6) (e48 : g 48 l = nI t) (hc : ∀ j, j < t → ∃ k : Nat, k < 128 ∧ g 49 (6 * l + j) = nI k) (P : Int32 → Prop) (hp : P (b_st (fun j => g 50 (6 * l + j)) (fun j => g kk (g 49 (6 * l + j)).toNatClampNeg) t (g 47 l))) : vr_doesHold kk (nI l) g P := by
  unfold vr_doesHold
  rw [show (6 : Int32) * nI l = nI (6 * l + 0) from pk_mul 6 l]
  refine nm_e ⟨t + 1, dh_loop hl ht e48 hc _ _ ⟨vp_in_nI (by omega) (by omega), ?_⟩ t 0 (by omega)⟩
  rw [tn_nI (by omega)]
  unfold b_st at hp
  exact ⟨fun q => by rw [if_pos q] at hp; exact hp, fun q => by rw [if_neg q] at hp; exact hp⟩
theorem b_va_0 (c : jm_M) (kk cell : Nat) : ∀ n, b_va c kk cell 0 n = c kk cell
  | 0 => rfl
  | n + 1 => by rw [b_va, if_neg (fun w => by rw [Nat.zero_testBit] at w; exact absurd w.2 (by decide))]; exact b_va_0 c kk cell n
theorem isHouse_iff (a : Int32) (g : cm_M) (P : Int32 → Prop) : vc_X10_isHouse a g P ↔ P (if a < 0 ∨ 1 < a then 0 else 1) := by
  have e0 : a = 0 ∨ a = 1 ↔ ¬ (a < 0 ∨ 1 < a) := by
    rw [Int32.lt_iff_toInt_lt, Int32.lt_iff_toInt_lt, ← Int32.toInt_inj, ← Int32.toInt_inj]
    have q0 : (0 : Int32).toInt = 0 := by decide
    have q1 : (1 : Int32).toInt = 1 := by decide
    omega
  unfold vc_X10_isHouse
  by_cases q0 : a = 0
  · simp [q0]
  · by_cases q1 : a = 1
    · simp [q1]
    · have q2 : a < 0 ∨ 1 < a := by
        rcases Classical.em (a < 0 ∨ 1 < a) with z | z
        · exact z
        · rcases e0.mpr z with z | z
          · exact absurd z q0
          · exact absurd z q1
      simp [q0, q1, q2]
theorem op_holds {B : Nat} {gC : cm_M} {gR : jm_M} (h : b_R B gC gR) (a b : Int32) : ∃ (r : Int32), (∀ P : Int32 → Prop, P r → vc_X10_holds a b gC P) ∧ (∀ P : Int32 → Prop, P r → vr_holds a b gR P) := by
  obtain ⟨M, T, N, hT, hX, ht, ⟨⟨y1, y2, y3⟩, hr, hk, hu, hs, hL⟩, hW, hP, ⟨⟨z, hz, e67⟩, hA⟩, hI⟩ := id h
  obtain ⟨hM, hT16, hN, c12, r1, c13, r3, c14, r5, -⟩ := id hT
  obtain ⟨K, w1, w2, w3, w4, w5, w6, w7, w8⟩ := id hW
  rcases ix_cases a (n := K) (by omega) with h1 | ⟨l, hl, rfl, h1⟩
  · refine ⟨-1, fun P hp => ?_, fun P hp => ?_⟩
    · simp [vc_X10_holds, vc_has_iff w2, h1, hp]
    · simp [vr_holds, vr_isLaw_iff w1 w3, h1, hp]
  by_cases h2 : b < 0 ∨ 1 < b
  · refine ⟨-1, fun P hp => ?_, fun P hp => ?_⟩
    · simp [vc_X10_holds, vc_has_iff w2, isHouse_iff, h1, h2, hp]
    · simp [vr_holds, vr_isLaw_iff w1 w3, vr_in_iff, h1, h2, hp]
  obtain ⟨t, ht6, et, hct⟩ := w8 l (by omega)
  have hc1 : ∀ j, j < t → ∃ k : Nat, k < 128 ∧ gR 49 (6 * l + j) = nI k := fun j hj => by
    obtain ⟨k, hk, ek⟩ := hct j hj
    exact ⟨k, by omega, ek⟩
  have hc2 : ∀ j, j < t → ∃ k : Nat, k < 128 ∧ gC.2.2 57 (6 * l + j) = nI k := by rw [w6]; exact hc1
  have e55 : gC.2.2 55 l = nI t := by rw [w5, et]
  have same : ∀ kc kr, (∀ i, i < 128 → gC.2.2 kc i = gR kr i) → b_st (fun j => gC.2.2 58 (6 * l + j)) (fun j => b_va gC.2.2 kc (gC.2.2 57 (6 * l + j)).toNatClampNeg 0 z) t (gC.2.2 56 l) = b_st (fun j => gR 50 (6 * l + j)) (fun j => gR kr (gR 49 (6 * l + j)).toNatClampNeg) t (gR 47 l) := by
    intro kc kr hkk
    unfold b_st
    rw [w4, w7, w6, b_sm_ext t (fun i _ => rfl) (fun i hi => by
      obtain ⟨k, hk, ek⟩ := hc1 i hi
      show b_va gC.2.2 kc (gR 49 (6 * l + i)).toNatClampNeg 0 z = gR kr (gR 49 (6 * l + i)).toNatClampNeg
      rw [b_va_0, ek, tn_nI (by omega)]; exact hkk k hk)]
  have st01 : ∀ fa va n le, b_st fa va n le = 0 ∨ b_st fa va n le = 1 := fun fa va n le => by
    unfold b_st; split
    · exact Or.inl rfl
    · exact Or.inr rfl
  by_cases h3 : b = 0
  · refine ⟨b_st (fun j => gR 50 (6 * l + j)) (fun j => gR 11 (gR 49 (6 * l + j)).toNatClampNeg) t (gR 47 l), fun P hp => ?_, fun P hp => ?_⟩
    · unfold vc_X10_holds
      rw [vc_has_iff w2, if_neg h1]
      refine ⟨fun q => absurd q (by decide), fun _ => ?_⟩
      rw [isHouse_iff, if_neg h2]
      refine ⟨fun _ => ⟨fun _ => sa_of (by omega) ht6 e55 hc2 (come := 0) (by omega) hz e67 _ ?_, fun q => absurd h3 q⟩, fun q => absurd q (by decide)⟩
      rw [same 25 11 y1]
      rcases st01 _ _ _ _ with q | q <;> rw [q] at hp ⊢
      · exact ⟨fun _ => hp, fun w => absurd rfl w⟩
      · exact ⟨fun w => absurd w (by decide), fun _ => hp⟩
    · unfold vr_holds
      rw [vr_isLaw_iff w1 w3, if_neg h1]
      refine ⟨fun q => absurd q (by decide), fun _ => ?_⟩
      rw [vr_in_iff, if_neg h2]
      refine ⟨fun _ => ⟨fun q => absurd h3 q, fun _ => dh_of (by omega) ht6 et hc1 _ ?_⟩, fun q => absurd q (by decide)⟩
      rcases st01 _ _ _ _ with q | q <;> rw [q] at hp ⊢
      · exact ⟨fun _ => hp, fun w => absurd rfl w⟩
      · exact ⟨fun w => absurd w (by decide), fun _ => hp⟩
  · refine ⟨b_st (fun j => gR 50 (6 * l + j)) (fun j => gR 12 (gR 49 (6 * l + j)).toNatClampNeg) t (gR 47 l), fun P hp => ?_, fun P hp => ?_⟩
    · unfold vc_X10_holds
      rw [vc_has_iff w2, if_neg h1]
      refine ⟨fun q => absurd q (by decide), fun _ => ?_⟩
      rw [isHouse_iff, if_neg h2]
      refine ⟨fun _ => ⟨fun q => absurd q h3, fun _ => sa_of (by omega) ht6 e55 hc2 (come := 0) (by omega) hz e67 _ ?_⟩, fun q => absurd q (by decide)⟩
      rw [same 26 12 y2]
      rcases st01 _ _ _ _ with q | q <;> rw [q] at hp ⊢
      · exact ⟨fun _ => hp, fun w => absurd rfl w⟩
      · exact ⟨fun w => absurd w (by decide), fun _ => hp⟩
    · unfold vr_holds
      rw [vr_isLaw_iff w1 w3, if_neg h1]
      refine ⟨fun q => absurd q (by decide), fun _ => ?_⟩
      rw [vr_in_iff, if_neg h2]
      refine ⟨fun _ => ⟨fun _ => dh_of (by omega) ht6 et hc1 _ ?_, fun q => absurd q h3⟩, fun q => absurd q (by decide)⟩
      rcases st01 _ _ _ _ with q | q <;> rw [q] at hp ⊢
      · exact ⟨fun _ => hp, fun w => absurd rfl w⟩
      · exact ⟨fun w => absurd w (by decide), fun _ => hp⟩
