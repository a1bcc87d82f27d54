theorem or_0 (a : Nat) : nI a ||| 0 = nI a := by
  rw [show (0 : Int32) = nI 0 from rfl, nI_or, Nat.or_zero]
theorem ga70 {gd : cm_D} {gj : cm_J} {J : jm_M} {i : Nat} {ce : Nat → Nat} {w0 : Nat → Int32} (hi : i < 6) (h64 : ∀ x, x ≤ i → J 64 x = nI (ce x) ∧ ce x < 128) (K Post : cm_M → Prop) (hK : ∀ w' : Nat → Int32, (∀ x, x ≠ i → w' x = w0 x) → (∃ nd, nd < 2 ^ 6 ∧ w' i = nI nd ∧ ∀ j, nd.testBit j = true ↔ j < i ∧ ce j = ce i) → K (gd, gj, jm_u J 66 w')) : ∀ d j (w : Nat → Int32), j + d = i → (∀ x, x ≠ i → w x = w0 x) → (∃ nd, nd < 2 ^ 6 ∧ w i = nI nd ∧ ∀ k, nd.testBit k = true ↔ k < j ∧ ce k = ce i) → vc_X1_gather_70 (nI i) K Post (d + 1) (nI j) (gd, gj, jm_u J 66 w)
  | 0, j, w, hj, h1, h2 => by
    obtain rfl : j = i := by omega
    unfold vc_X1_gather_70
    exact ⟨fun _ => hK w h1 h2, fun q => absurd (nI_le (Nat.le_refl _) (by omega)) q⟩
  | d + 1, j, w, hj, h1, h2 => by
    obtain ⟨nd, n1, n2, n3⟩ := h2
    obtain ⟨ej, cj⟩ := h64 j (by omega)
    obtain ⟨ei, ci⟩ := h64 i (Nat.le_refl i)
    have fj : ((gd, gj, jm_u J 66 w) : cm_M).2.2 64 j = nI (ce j) := ej
    have fi : ((gd, gj, jm_u J 66 w) : cm_M).2.2 64 i = nI (ce i) := ei
    have fw : ((gd, gj, jm_u J 66 w) : cm_M).2.2 66 i = nI nd := by show (jm_u J 66 w) 66 i = _; rw [jm_uk]; exact n2
    have eo : nI (ce j) = nI (ce i) ↔ ce j = ce i := nI_eq (by omega) (by omega)
    have ea : ∀ x : Int32, cm_a (gd, gj, jm_u J 66 w) 66 (nI i) x = (gd, gj, jm_u J 66 (upd w i x)) := fun x => by
      show (gd, gj, jm_a (jm_u J 66 w) 66 (nI i) x) = _
      rw [jm_as _ _ _ (by omega), jm_uk, jm_uu]
    have iv : vp_in (nI i) 6 := vp_in_nI hi (by omega)
    unfold vc_X1_gather_70
    rw [tn_nI (by omega), tn_nI (by omega), fj, fi, fw, eo, or_0, nI_shl1 (by omega), nI_or, nI_1]
    refine ⟨fun q => absurd q (nI_ge (by omega) (by omega)), fun _ => ⟨iv, vp_in_nI (by omega) (by omega), iv, fun q => ⟨iv, nm_e ?_⟩, fun q => ⟨iv, nm_e ?_⟩⟩⟩
    · rw [ea]
      refine ga70 hi h64 K Post hK d (j + 1) _ (by omega) (fun x hx => by rw [pk_un hx]; exact h1 x hx) ⟨nd, n1, pk_us, fun k => ?_⟩
      rw [n3 k]
      refine ⟨fun u => ⟨by omega, u.2⟩, fun u => ⟨?_, u.2⟩⟩
      have : k ≠ j := fun e => q (by rw [← e]; exact u.2)
      omega
    · rw [ea]
      refine ga70 hi h64 K Post hK d (j + 1) _ (by omega) (fun x hx => by rw [pk_un hx]; exact h1 x hx) ⟨nd ||| 2 ^ j, or_lt n1 (Nat.pow_lt_pow_right (by omega) (by omega)), pk_us, fun k => ?_⟩
      rw [tb_or1, Bool.or_eq_true, decide_eq_true_eq, n3 k]
      refine ⟨fun u => ?_, fun u => ?_⟩
      · rcases u with u | u
        · exact ⟨by omega, u.2⟩
        · subst u; exact ⟨by omega, q⟩
      · by_cases e : k = j
        · exact Or.inr e.symm
        · exact Or.inl ⟨by omega, u.2⟩
/-- what the class has of the letters that wait -/
def o_W (T z : Nat) (n : Nat → Nat) (nu ce : Nat → Nat) (sa : Nat → Int32) (c : jm_M) : Prop := T ≤ 16 ∧ z ≤ 6 ∧ n 2 ≤ 2048 ∧ n 3 = n 2 ∧ ∀ i, i < z → c 39 i = nI (nu i) ∧ nu i < 2000 ∧ nu i < n 2 ∧ ce i < 8 * T ∧ (∃ f t, f < 6 ∧ t < 6 ∧ c 37 (nu i) = nI ((ce i * 6 + f) * 6 + t)) ∧ c 38 (nu i) = sa i
def o_rows (nu ce : Nat → Nat) (sa : Nat → Int32) (J : jm_M) (x : Nat) : Prop := J 63 x = nI (nu x) ∧ J 64 x = nI (ce x) ∧ J 65 x = sa x ∧ ∃ nd, nd < 2 ^ 6 ∧ J 66 x = nI nd ∧ ∀ j, nd.testBit j = true ↔ j < x ∧ ce j = ce x
theorem ga15 {T z : Nat} {gd : cm_D} {gj : cm_J} {c : jm_M} {nu ce : Nat → Nat} {sa : Nat → Int32} (hW : o_W T z gd.2.1 nu ce sa c) (e67 : c 67 0 = nI z) (K Post : cm_M → Prop) (hK : ∀ J : jm_M, (∀ k, (k < 63 ∨ 66 < k) → J k = c k) → (∀ x, x < z → o_rows nu ce sa J x) → K (gd, gj, J)) : ∀ d i (J : jm_M), i + d = z → (∀ k, (k < 63 ∨ 66 < k) → J k = c k) → (∀ x, x < i → o_rows nu ce sa J x) → vc_X1_gather_15 K Post (d + 1) (nI i) (gd, gj, J)
  | 0, i, J, hi, hJ, hx => by
    obtain rfl : i = z := by omega
    obtain ⟨hT, hz, -⟩ := hW
    unfold vc_X1_gather_15
    rw [show ((gd, gj, J) : cm_M).2.2 67 0 = nI i from by show J 67 0 = _; rw [hJ 67 (by decide)]; exact e67]
    exact ⟨fun _ => hK J hJ hx, fun q => absurd (nI_le (Nat.le_refl _) (by omega)) q⟩
  | d + 1, i, J, hi, hJ, hx => by
    obtain ⟨hT, hz, hn2, hn3, hrow⟩ := id hW
    obtain ⟨w1, w2, w3, w4, ⟨f, t, w5, w6, w7⟩, w8⟩ := hrow i (by omega)
    have iv : vp_in (nI i) 6 := vp_in_nI (by omega) (by omega)
    have f67 : ((gd, gj, J) : cm_M).2.2 67 0 = nI z := by show J 67 0 = _; rw [hJ 67 (by decide)]; exact e67
    have f39 : ((gd, gj, J) : cm_M).2.2 39 i = nI (nu i) := by show J 39 i = _; rw [hJ 39 (by decide)]; exact w1
    unfold vc_X1_gather_15
    rw [f67, tn_nI (by omega), f39]
    refine ⟨fun q => absurd q (nI_ge (by omega) (by omega)), fun _ => ⟨vp_in_nI (by omega) (by omega), nm_e ⟨iv, nm_e ?_⟩⟩⟩
    refine cellOf_of (T := T) (g := cm_a (gd, gj, J) 63 (nI i) (nI (nu i))) w3 hn2 hT w4 w5 w6 (by show J 37 (nu i) = _; rw [hJ 37 (by decide)]; exact w7) _ ⟨iv, nm_e ⟨?_, iv, nm_e ⟨iv, nm_e ?_⟩⟩⟩
    · show vp_in (nI (nu i)) (gd.2.1 3)
      exact vp_in_nI (by omega) (by omega)
    · rw [tn_nI (by omega)]
      have e38 : (cm_a (cm_a (gd, gj, J) 63 (nI i) (nI (nu i))) 64 (nI i) (nI (ce i))).2.2 38 (nu i) = sa i := by show J 38 (nu i) = _; rw [hJ 38 (by decide)]; exact w8
      rw [e38]
      obtain ⟨J3, hJ3⟩ : ∃ J3, J3 = jm_u (jm_u (jm_u J 63 (upd (J 63) i (nI (nu i)))) 64 (upd (J 64) i (nI (ce i)))) 65 (upd (J 65) i (sa i)) := ⟨_, rfl⟩
      have e8 : cm_a (cm_a (cm_a (cm_a (gd, gj, J) 63 (nI i) (nI (nu i))) 64 (nI i) (nI (ce i))) 65 (nI i) (sa i)) 66 (nI i) 0 = (gd, gj, jm_u J3 66 (upd (J 66) i 0)) := by
        show (gd, gj, jm_a (jm_a (jm_a (jm_a J 63 (nI i) (nI (nu i))) 64 (nI i) (nI (ce i))) 65 (nI i) (sa i)) 66 (nI i) 0) = _
        rw [jm_as _ _ _ (by omega), jm_as _ _ _ (by omega), jm_as _ _ _ (by omega), jm_as _ _ _ (by omega), hJ3]
        rfl
      rw [e8]
      have j3o : ∀ k, k ≠ 63 → k ≠ 64 → k ≠ 65 → J3 k = J k := fun k h1 h2 h3 => by rw [hJ3, jm_un _ _ h3, jm_un _ _ h2, jm_un _ _ h1]
      have j63 : J3 63 = upd (J 63) i (nI (nu i)) := by rw [hJ3]; rfl
      have j64 : J3 64 = upd (J 64) i (nI (ce i)) := by rw [hJ3]; rfl
      have j65 : J3 65 = upd (J 65) i (sa i) := by rw [hJ3]; rfl
      refine ⟨i + 1, ga70 (w0 := J 66) (ce := ce) (by omega) (fun x hxi => ?_) _ _ (fun w' q1 q2 => ?_) i 0 _ (by omega) (fun x hxi => pk_un hxi) ⟨0, by decide, by rw [pk_us]; rfl, fun k => ?_⟩⟩
      · rw [j64]
        by_cases e : x = i
        · subst e; rw [pk_us]; exact ⟨rfl, by omega⟩
        · rw [pk_un e]
          have := (hrow x (by omega)).2.2.2.1
          exact ⟨(hx x (by omega)).2.1, by omega⟩
      · rw [nI_1]
        refine ga15 hW e67 K Post hK d (i + 1) _ (by omega) (fun k hk => ?_) (fun x hxi => ?_)
        · rw [jm_un _ _ (by omega), j3o k (by omega) (by omega) (by omega)]; exact hJ k hk
        · have r63 : (jm_u J3 66 w') 63 = upd (J 63) i (nI (nu i)) := by rw [jm_un _ _ (by decide)]; exact j63
          have r64 : (jm_u J3 66 w') 64 = upd (J 64) i (nI (ce i)) := by rw [jm_un _ _ (by decide)]; exact j64
          have r65 : (jm_u J3 66 w') 65 = upd (J 65) i (sa i) := by rw [jm_un _ _ (by decide)]; exact j65
          unfold o_rows
          rw [r63, r64, r65, jm_uk]
          by_cases e : x = i
          · subst e; rw [pk_us, pk_us, pk_us]; exact ⟨rfl, rfl, rfl, q2⟩
          · rw [pk_un e, pk_un e, pk_un e, q1 x e]; exact hx x (by omega)
      · rw [Nat.zero_testBit]; exact ⟨fun q => absurd q (by decide), fun q => absurd q.1 (Nat.not_lt_zero k)⟩
theorem ga123 {gd : cm_D} {gj : cm_J} {J : jm_M} {z : Nat} (hz : z ≤ 6) (e67 : J 67 0 = nI z) (K Post : cm_M → Prop) (hK : ∀ s : Nat → Int32, (∀ x, x < 2 ^ z → s x = 1) → K (gd, gj, jm_u J 62 s)) : ∀ d i (s : Nat → Int32), i + d = 2 ^ z → (∀ x, x < i → s x = 1) → vc_X1_gather_123 K Post (d + 1) (nI i) (gd, gj, jm_u J 62 s)
  | 0, i, s, hi, hs => by
    have h64 : 2 ^ z ≤ 2 ^ 6 := Nat.pow_le_pow_right (by omega) hz
    obtain rfl : i = 2 ^ z := by omega
    unfold vc_X1_gather_123
    rw [show ((gd, gj, jm_u J 62 s) : cm_M).2.2 67 0 = nI z from e67, nI_shl1 (by omega)]
    exact ⟨fun _ => hK s hs, fun q => absurd (nI_le (Nat.le_refl _) (by omega)) q⟩
  | d + 1, i, s, hi, hs => by
    have h64 : 2 ^ z ≤ 2 ^ 6 := Nat.pow_le_pow_right (by omega) hz
    unfold vc_X1_gather_123
    rw [show ((gd, gj, jm_u J 62 s) : cm_M).2.2 67 0 = nI z from e67, nI_shl1 (by omega)]
    refine ⟨fun q => absurd q (nI_ge (by omega) (by omega)), fun _ => ⟨vp_in_nI (by omega) (by omega), nm_e ?_⟩⟩
    have ea : cm_a (gd, gj, jm_u J 62 s) 62 (nI i) 1 = (gd, gj, jm_u J 62 (upd s i 1)) := by
      show (gd, gj, jm_a (jm_u J 62 s) 62 (nI i) 1) = _
      rw [jm_as _ _ _ (by omega), jm_uk, jm_uu]
    rw [ea, nI_1]
    refine ga123 hz e67 K Post hK d (i + 1) _ (by omega) (fun x hx => ?_)
    by_cases e : x = i
    · rw [e, pk_us]
    · rw [pk_un e]; exact hs x (by omega)
theorem gather_of {T z : Nat} {gd : cm_D} {gj : cm_J} {c : jm_M} {nu ce : Nat → Nat} {sa : Nat → Int32} (hW : o_W T z gd.2.1 nu ce sa c) (e41 : c 41 0 = nI z) (P : cm_M → Prop) (hP : ∀ J : jm_M, o_G z nu ce J → (∀ x, x < z → J 65 x = sa x) → (∀ x, x < 2 ^ z → J 60 x = nI (o_F z ce (fun _ => True) x)) → (∀ k, (k < 60 ∨ 67 < k) → J k = c k) → P (gd, gj, J)) : vc_X1_gather (gd, gj, c) P := by
  obtain ⟨hT, hz, hn2, hn3, hrow⟩ := id hW
  have f41 : ((gd, gj, c) : cm_M).2.2 41 0 = nI z := e41
  unfold vc_X1_gather
  rw [f41, if_neg (show ¬ (6 : Int32) < nI z from nI_nlt (a := 6) (by omega) (by omega))]
  refine nm_e ⟨z + 1, ?_⟩
  refine ga15 (c := jm_s c 67 (nI z)) hW rfl _ _ (fun J hJ hx => ⟨2 ^ z + 1, ?_⟩) z 0 _ (by omega) (fun k _ => rfl) (fun x hx => absurd hx (Nat.not_lt_zero x))
  have j67 : J 67 0 = nI z := by rw [hJ 67 (by decide)]; rfl
  have hG : o_G z nu ce J := ⟨hz, j67, fun i hi => by
    obtain ⟨a1, a2, a3, a4⟩ := hx i hi
    have := (hrow i hi).2.2.2.1
    exact ⟨a1, (hrow i hi).2.1, a2, by omega, a4⟩⟩
  have main := ga123 (gd := gd) (gj := gj) hz j67 (fun (g18 : cm_M) => vc_X1_countInto 60 g18 (fun (g20 : cm_M) => P g20)) P (fun s hs => ci_of (gd := gd) (gj := gj) (c := jm_u J 62 s) hG (Or.inl rfl) (fun _ => True) (fun x hx2 => ?_) _ (fun u hu => hP _ hG (fun x hx2 => (hx x hx2).2.2.1) (fun x hx2 => ?_) (fun k hk => ?_))) (2 ^ z) 0 (J 62) (by omega) (fun x hx2 => absurd hx2 (Nat.not_lt_zero x))
  · rw [jm_u0] at main
    exact main
  · show s x = 0 ↔ ¬ True
    rw [hs x hx2]; exact ⟨fun w => absurd w (by decide), fun w => absurd trivial w⟩
  · rw [jm_uk]; exact hu x hx2
  · rw [jm_un _ _ (by omega), jm_un _ _ (by omega), hJ k (by omega), js_un _ _ (by omega)]
/-- a law stands behind a mask -/
def o_st (c : jm_M) (l t z come : Nat) : Prop := b_st (fun j => c 58 (6 * l + j)) (fun j => b_va c 26 (c 57 (6 * l + j)).toNatClampNeg come z) t (c 56 l) ≠ 0
theorem wa3 {gd : cm_D} {gj : cm_J} {J : jm_M} {z l t : Nat} (hz : z ≤ 6) (e67 : J 67 0 = nI z) (hl : l < 10) (ht : t ≤ 6) (e55 : J 55 l = nI t) (hc : ∀ j, j < t → ∃ k : Nat, k < 128 ∧ J 57 (6 * l + j) = nI k) (K Post : cm_M → Prop) (hK : ∀ s : Nat → Int32, (∀ x, x < 2 ^ z → (s x = 0 ↔ ¬ o_st J l t z x)) → K (gd, gj, jm_u J 62 s)) : ∀ d i (s : Nat → Int32), i + d = 2 ^ z → (∀ x, x < i → (s x = 0 ↔ ¬ o_st J l t z x)) → vc_X1_watch_3 (nI l) K Post (d + 1) (nI i) (gd, gj, jm_u J 62 s)
  | 0, i, s, hi, hs => by
    have h64 : 2 ^ z ≤ 2 ^ 6 := Nat.pow_le_pow_right (by omega) hz
    obtain rfl : i = 2 ^ z := by omega
    unfold vc_X1_watch_3
    rw [show ((gd, gj, jm_u J 62 s) : cm_M).2.2 67 0 = nI z from e67, nI_shl1 (by omega)]
    exact ⟨fun _ => hK s hs, fun q => absurd (nI_le (Nat.le_refl _) (by omega)) q⟩
  | d + 1, i, s, hi, hs => by
    have h64 : 2 ^ z ≤ 2 ^ 6 := Nat.pow_le_pow_right (by omega) hz
    unfold vc_X1_watch_3
    rw [show ((gd, gj, jm_u J 62 s) : cm_M).2.2 67 0 = nI z from e67, nI_shl1 (by omega)]
    refine ⟨fun q => absurd q (nI_ge (by omega) (by omega)), fun _ => ?_⟩
    refine sa_of (g := (gd, gj, jm_u J 62 s)) (kk := 26) (z := z) hl ht e55 hc (by omega) hz e67 _ ⟨vp_in_nI (by omega) (by omega), b_st_nb _ _ _ _, nm_e ?_⟩
    obtain ⟨v, hv⟩ : ∃ v, v = b_st (fun j => J 58 (6 * l + j)) (fun j => b_va J 26 (J 57 (6 * l + j)).toNatClampNeg i z) t (J 56 l) := ⟨_, rfl⟩
    have bva : ∀ cell n, b_va (jm_u J 62 s) 26 cell i n = b_va J 26 cell i n := fun cell n => by
      induction n with
      | zero => rfl
      | succ n ih => unfold b_va; rw [ih]; rfl
    have ev : b_st (fun j => ((gd, gj, jm_u J 62 s) : cm_M).2.2 58 (6 * l + j)) (fun j => b_va ((gd, gj, jm_u J 62 s) : cm_M).2.2 26 (((gd, gj, jm_u J 62 s) : cm_M).2.2 57 (6 * l + j)).toNatClampNeg i z) t (((gd, gj, jm_u J 62 s) : cm_M).2.2 56 l) = v := by
      rw [hv]
      show b_st (fun j => J 58 (6 * l + j)) (fun j => b_va (jm_u J 62 s) 26 (J 57 (6 * l + j)).toNatClampNeg i z) t (J 56 l) = _
      congr 1
      funext j
      exact bva _ _
    rw [ev]
    have ea : cm_a (gd, gj, jm_u J 62 s) 62 (nI i) v = (gd, gj, jm_u J 62 (upd s i v)) := by
      show (gd, gj, jm_a (jm_u J 62 s) 62 (nI i) v) = _
      rw [jm_as _ _ _ (by omega), jm_uk, jm_uu]
    rw [ea, nI_1]
    refine wa3 hz e67 hl ht e55 hc K Post hK d (i + 1) _ (by omega) (fun x hx => ?_)
    by_cases e : x = i
    · rw [e, pk_us]
      unfold o_st
      rw [← hv]; exact ⟨fun w u => u w, fun w => Classical.not_not.mp w⟩
    · rw [pk_un e]; exact hs x (by omega)
theorem watch_of {gd : cm_D} {gj : cm_J} {J : jm_M} {z l t : Nat} {nu ce : Nat → Nat} (hG : o_G z nu ce J) (hl : l < 10) (ht : t ≤ 6) (e55 : J 55 l = nI t) (hc : ∀ j, j < t → ∃ k : Nat, k < 128 ∧ J 57 (6 * l + j) = nI k) (P : cm_M → Prop) (hP : ∀ s u : Nat → Int32, (∀ x, x < 2 ^ z → (s x = 0 ↔ ¬ o_st J l t z x)) → (∀ x, x < 2 ^ z → u x = nI (o_F z ce (o_st J l t z) x)) → P (gd, gj, jm_u (jm_u J 62 s) 61 u)) : vc_X1_watch (nI l) (gd, gj, J) P := by
  obtain ⟨hz, e67, hrow⟩ := id hG
  refine ⟨2 ^ z + 1, ?_⟩
  have main := wa3 (gd := gd) (gj := gj) hz e67 hl ht e55 hc (fun (g4 : cm_M) => vc_X1_countInto 61 g4 (fun (g6 : cm_M) => P g6)) P (fun s hs => ci_of (gd := gd) (gj := gj) (c := jm_u J 62 s) hG (Or.inr rfl) (o_st J l t z) hs _ (fun u hu => hP s u hs hu)) (2 ^ z) 0 (J 62) (by omega) (fun x hx2 => absurd hx2 (Nat.not_lt_zero x))
  rw [jm_u0] at main
  exact main
theorem fb_loop {z m come : Nat} {nu ce : Nat → Nat} {st : Nat → Prop} {ok : Prop} {g : cm_M} {x2 : Int32} (hG : o_G z nu ce g.2.2) (w60 : ∀ x, x < 2 ^ z → g.2.2 60 x = nI (o_F z ce (fun _ => True) x)) (w61 : ∀ x, x < 2 ^ z → g.2.2 61 x = nI (o_F z ce st x)) (hc : come < 2 ^ z) (hpc : q_pc come + (m + 1) = z) (hx : x2 = 0 ↔ (ok ∧ st come)) (hne : sS (o_fB z ce st m come ok) z ≠ 0) (P : Int32 → Prop) (hp : P (nI (o_ls (o_fB z ce st m come ok) z))) : ∀ d i, i + d = z → sS (o_fB z ce st m come ok) i = 0 → vc_X1_firstToBreak_2 (nI come) x2 g P (d + 1) (nI i)
  | 0, i, hi, h0 => by
    obtain rfl : i = z := by omega
    exact absurd h0 hne
  | d + 1, i, hi, h0 => by
    obtain ⟨hz, e67, hrow⟩ := id hG
    have h64 : 2 ^ z ≤ 2 ^ 6 := Nat.pow_le_pow_right (by omega) hz
    have hor : come ||| 2 ^ i < 2 ^ z := or_lt hc (Nat.pow_lt_pow_right (by omega) (by omega))
    have es : sS (o_fB z ce st m come ok) (i + 1) = sS (o_fB z ce st m come ok) i + o_fB z ce st m come ok i := rfl
    have next : o_fB z ce st m come ok i = 0 → vc_X1_firstToBreak_2 (nI come) x2 g P (d + 1) (nI (i + 1)) := fun e => fb_loop hG w60 w61 hc hpc hx hne P hp d (i + 1) (by omega) (by rw [es, h0, e])
    have here : o_fB z ce st m come ok i ≠ 0 → P (nI i) := fun e => by rw [ls_eq h0 e z (by omega)] at hp; exact hp
    unfold vc_X1_firstToBreak_2
    rw [e67, nI_shl1 (by omega), nI_or, nI_1]
    refine ⟨fun q => absurd q (nI_ge (by omega) (by omega)), fun _ => nm_e (cc_of hG (by omega) (by omega) _ (fun w => ⟨fun q => absurd q (by decide), fun _ => ?_⟩) (fun w => ⟨fun _ => next (oc_n w), fun q => absurd rfl q⟩))⟩
    have eall := oB_all z ce st m (come ||| 2 ^ i) (ok ∧ st come)
    have efb : o_fB z ce st m come ok i = oB z ce st m (come ||| 2 ^ i) (ok ∧ st come) := oc_y w
    have hpc2 : q_pc (come ||| 2 ^ i) + m = z := by rw [pc_cn hz (by omega) w]; omega
    have hpos := oW_pos hz ce m (come ||| 2 ^ i) hor hpc2
    refine ⟨fun q => here ?_, fun q => ?_⟩
    · rw [oc_n (fun u => q (hx.mpr u)), Nat.add_zero] at eall
      rw [efb, eall]; exact hpos
    · rw [oc_y (hx.mp q)] at eall
      rw [tn_nI (by omega), w60 _ hor, w61 _ hor]
      have hm : z - q_pc (come ||| 2 ^ i) = m := by omega
      unfold o_F
      rw [hm]
      have b1 := oX_le z hz ce (fun _ => True) m (come ||| 2 ^ i)
      have b2 := oX_le z hz ce st m (come ||| 2 ^ i)
      have b3 : 6 ^ m ≤ 6 ^ 6 := Nat.pow_le_pow_right (by omega) (by omega)
      rw [nI_leI (by omega) (by omega)]
      exact ⟨vp_in_nI (by omega) (by omega), vp_in_nI (by omega) (by omega), fun u => next (by rw [efb]; omega), fun u => here (by rw [efb]; omega)⟩
theorem ob_loop {z place : Nat} {nu ce : Nat → Nat} {st : Nat → Prop} {g : cm_M} (hG : o_G z nu ce g.2.2) (w60 : ∀ x, x < 2 ^ z → g.2.2 60 x = nI (o_F z ce (fun _ => True) x)) (w61 : ∀ x, x < 2 ^ z → g.2.2 61 x = nI (o_F z ce st x)) (w62 : ∀ x, x < 2 ^ z → (g.2.2 62 x = 0 ↔ ¬ st x)) (hpl : place < z) (K Post : Int32 → Prop) : ∀ d j come (ok : Prop) (x4 x3 : Int32), j + d = place → come < 2 ^ z → q_pc come = j → (x4 = 0 ↔ ok) → oB z ce st (z - j) come ok ≠ 0 → K (nI (o_gp z ce st (z - j) come ok d)) → vc_X1_ofFirstBroken_39 (nI place) g K Post (d + 2) (nI come) x3 x4 (nI j) := by
  obtain ⟨hz, e67, hrow⟩ := id hG
  have h64 : 2 ^ z ≤ 2 ^ 6 := Nat.pow_le_pow_right (by omega) hz
  intro d
  induction d with
  | zero =>
    intro j come ok x4 x3 hj hc hpc hx hB hK
    obtain ⟨m, hm⟩ : ∃ m, z - j = m + 1 := ⟨z - j - 1, by omega⟩
    rw [hm] at hB hK
    obtain ⟨i1, i2, i3⟩ := ls_is z (show sS (o_fB z ce st m come ok) z ≠ 0 from hB)
    have fin : ∀ x : Int32, ∀ y7 : Int32, vc_X1_ofFirstBroken_39 (nI place) g K Post 1 y7 (nI (o_ls (o_fB z ce st m come ok) z)) x (nI j + 1) := fun x y7 => by
      unfold vc_X1_ofFirstBroken_39
      rw [nI_1]
      exact ⟨fun _ => hK, fun q => absurd (nI_lt (by omega) (by omega)) q⟩
    have go : ∀ x2 x : Int32, (x2 = 0 ↔ (ok ∧ st come)) → vc_X1_firstToBreak (nI come) x2 g (fun (r6 : Int32) => ∀ y7 : Int32, y7 = nI come ||| ((1 : Int32) <<< (r6 &&& 31)) → (vc_X1_ofFirstBroken_39 (nI place) g K Post 1 y7 r6 x (nI j + 1))) := fun x2 x h => ⟨z + 1, fb_loop (m := m) (ok := ok) hG w60 w61 hc (by omega) h hB _ (fun y7 _ => fin x y7) z 0 (by omega) rfl⟩
    rw [vc_X1_ofFirstBroken_39]
    refine ⟨fun q => absurd q (nI_nlt (by omega) (by omega)), fun _ => ⟨fun q => go 1 1 ⟨fun u => absurd u (by decide), fun u => absurd (hx.mpr u.1) q⟩, fun q => ⟨vp_in_nI (by omega) (by omega), ?_⟩⟩⟩
    rw [tn_nI (by omega), w62 come hc]
    refine ⟨fun w => go 0 0 ⟨fun _ => ⟨hx.mp q, Classical.not_not.mp w⟩, fun _ => rfl⟩, fun w => go 1 1 ⟨fun u => absurd u (by decide), fun u => absurd u.2 w⟩⟩
  | succ d ih =>
    intro j come ok x4 x3 hj hc hpc hx hB hK
    obtain ⟨m, hm⟩ : ∃ m, z - j = m + 1 := ⟨z - j - 1, by omega⟩
    rw [hm] at hB hK
    obtain ⟨i1, i2, i3⟩ := ls_is z (show sS (o_fB z ce st m come ok) z ≠ 0 from hB)
    obtain ⟨i, hi⟩ : ∃ i, i = o_ls (o_fB z ce st m come ok) z := ⟨_, rfl⟩
    have hKd : K (nI (o_gp z ce st m (come ||| 2 ^ i) (ok ∧ st come) d)) := by rw [hi]; exact hK
    rw [← hi] at i1 i2 i3
    obtain ⟨cn, bn⟩ := oc_0 i3
    have fin : ∀ x : Int32, (x = 0 ↔ (ok ∧ st come)) → ∀ y7 : Int32, y7 = nI come ||| ((1 : Int32) <<< (nI i &&& 31)) → vc_X1_ofFirstBroken_39 (nI place) g K Post (d + 2) y7 (nI i) x (nI j + 1) := fun x hx2 y7 hy7 => by
      rw [hy7, nI_shl1 (by omega), nI_or, nI_1]
      have hmj : z - (j + 1) = m := by omega
      exact ih (j + 1) (come ||| 2 ^ i) (ok ∧ st come) x (nI i) (by omega) (or_lt hc (Nat.pow_lt_pow_right (by omega) i1)) (by rw [pc_cn hz i1 cn, hpc]) hx2 (by rw [hmj]; exact bn) (by rw [hmj]; exact hKd)
    have go : ∀ x2 x : Int32, (x2 = 0 ↔ (ok ∧ st come)) → (x = 0 ↔ (ok ∧ st come)) → vc_X1_firstToBreak (nI come) x2 g (fun (r6 : Int32) => ∀ y7 : Int32, y7 = nI come ||| ((1 : Int32) <<< (r6 &&& 31)) → (vc_X1_ofFirstBroken_39 (nI place) g K Post (d + 2) y7 r6 x (nI j + 1))) := fun x2 x h hxx => ⟨z + 1, fb_loop (m := m) (ok := ok) hG w60 w61 hc (by omega) h hB _ (by rw [← hi]; exact fin x hxx) z 0 (by omega) rfl⟩
    rw [vc_X1_ofFirstBroken_39]
    have no1 : ¬ (ok ∧ st come) → ((1 : Int32) = 0 ↔ (ok ∧ st come)) := fun h => ⟨fun u => absurd u (by decide), fun u => absurd u h⟩
    refine ⟨fun q => absurd q (nI_nlt (by omega) (by omega)), fun _ => ⟨fun q => go 1 1 (no1 (fun u => q (hx.mpr u.1))) (no1 (fun u => q (hx.mpr u.1))), fun q => ⟨vp_in_nI (by omega) (by omega), ?_⟩⟩⟩
    rw [tn_nI (by omega), w62 come hc]
    refine ⟨fun w => go 0 0 ⟨fun _ => ⟨hx.mp q, Classical.not_not.mp w⟩, fun _ => rfl⟩ ⟨fun _ => ⟨hx.mp q, Classical.not_not.mp w⟩, fun _ => rfl⟩, fun w => go 1 1 (no1 (fun u => w u.2)) (no1 (fun u => w u.2))⟩
