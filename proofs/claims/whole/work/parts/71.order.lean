/-! orders: the class's rows -/
def o_G (z : Nat) (nu ce : Nat → Nat) (c : jm_M) : Prop := z ≤ 6 ∧ c 67 0 = nI z ∧ ∀ i, i < z → c 63 i = nI (nu i) ∧ nu i < 2000 ∧ c 64 i = nI (ce i) ∧ ce i < 128 ∧ ∃ nd, nd < 2 ^ 6 ∧ c 66 i = nI nd ∧ ∀ j, nd.testBit j = true ↔ j < i ∧ ce j = ce i
theorem cc_of {z : Nat} {nu ce : Nat → Nat} {g : cm_M} (hG : o_G z nu ce g.2.2) {i come : Nat} (hi : i < z) (hc : come < 2 ^ 6) (P : Int32 → Prop) (h1 : o_cn ce i come → P 1) (h0 : ¬ o_cn ce i come → P 0) : vc_X1_canCome (nI i) (nI come) g P := by
  obtain ⟨hz, e67, hrow⟩ := hG
  obtain ⟨-, -, -, -, nd, n1, n2, n3⟩ := hrow i hi
  have eb := nI_bit (n := come) (i := i) (by omega) (by omega)
  have es := nI_sub0 (n := come) (a := nd) (by omega) (by omega)
  unfold vc_X1_canCome
  rw [eb, tn_nI (by omega), n2, es]
  refine ⟨fun q => h0 (fun w => q w.1), fun q => ⟨vp_in_nI (by omega) (by omega), fun w => h0 (fun u => w (fun j hj => ?_)), fun w => h1 ⟨q, fun j hj e => w j ((n3 j).mpr ⟨hj, e⟩)⟩⟩⟩
  obtain ⟨a, b⟩ := (n3 j).mp hj
  exact u.2 j a b
theorem or_gt {come i : Nat} (h : come.testBit i = false) : come < come ||| 2 ^ i := by
  have h1 : come ≤ come ||| 2 ^ i := Nat.left_le_or
  have h2 : come ≠ come ||| 2 ^ i := fun e => by
    have : (come ||| 2 ^ i).testBit i = true := by rw [tb_or1]; simp
    rw [← e, h] at this
    exact absurd this (by decide)
  omega
theorem ci30 {z kk : Nat} {nu ce : Nat → Nat} {g : cm_M} (hG : o_G z nu ce g.2.2) {come b0 : Nat} {F : Nat → Nat} {x2 : Int32} (hc : come < 2 ^ z) (hF : ∀ c, come < c → c < 2 ^ z → g.2.2 kk c = nI (F c)) (K : Int32 → Prop) (Post : cm_M → Prop) (hK : K (nI (b0 + sS (fun i => oc (o_cn ce i come) (F (come ||| 2 ^ i)) 0) z))) : ∀ d i, i + d = z → vc_X1_countInto_30 kk x2 (nI come) g K Post (d + 1) (nI (b0 + sS (fun i => oc (o_cn ce i come) (F (come ||| 2 ^ i)) 0) i)) (nI i)
  | 0, i, hi => by
    obtain rfl : i = z := by omega
    obtain ⟨hz, e67, -⟩ := hG
    unfold vc_X1_countInto_30
    rw [e67]
    exact ⟨fun _ => hK, fun q => absurd (nI_le (Nat.le_refl _) (by omega)) q⟩
  | d + 1, i, hi => by
    obtain ⟨hz, e67, -⟩ := id hG
    have h64 : 2 ^ z ≤ 2 ^ 6 := Nat.pow_le_pow_right (by omega) hz
    have main := ci30 (kk := kk) (x2 := x2) hG hc hF K Post hK d (i + 1) (by omega)
    have es : sS (fun i => oc (o_cn ce i come) (F (come ||| 2 ^ i)) 0) (i + 1) = sS (fun i => oc (o_cn ce i come) (F (come ||| 2 ^ i)) 0) i + oc (o_cn ce i come) (F (come ||| 2 ^ i)) 0 := rfl
    have hor : come ||| 2 ^ i < 2 ^ z := or_lt hc (Nat.pow_lt_pow_right (by omega) (by omega))
    unfold vc_X1_countInto_30
    rw [e67, nI_shl1 (by omega), nI_or, tn_nI (by omega), nI_1]
    refine ⟨fun q => absurd q (nI_ge (by omega) (by omega)), fun _ => cc_of hG (by omega) (by omega) _ (fun w => ⟨fun q => absurd q (by decide), fun _ => ⟨vp_in_nI (by omega) (by omega), nm_e ?_⟩⟩) (fun w => ⟨fun _ => ?_, fun q => absurd rfl q⟩)⟩
    · rw [hF _ (or_gt w.1) hor, nI_add]
      rw [es, oc_y w, ← Nat.add_assoc] at main
      exact main
    · rw [es, oc_n w, Nat.add_zero] at main
      exact main
theorem n1_e (n : Nat) : nI n - 1 = nI n + (-1) := by
  cases n with
  | zero => decide
  | succ m => rw [nI_pred, pk_m1]
noncomputable def o_F (z : Nat) (ce : Nat → Nat) (st : Nat → Prop) (c : Nat) : Nat := oX z ce st (z - q_pc c) c
theorem ci11 {z kk : Nat} {nu ce : Nat → Nat} {gd : cm_D} {gj : cm_J} {c : jm_M} (hG : o_G z nu ce c) (hkk : kk = 60 ∨ kk = 61) (st : Nat → Prop) (hst : ∀ x, x < 2 ^ z → (c 62 x = 0 ↔ ¬ st x)) (Post : cm_M → Prop) (hP : ∀ u : Nat → Int32, (∀ x, x < 2 ^ z → u x = nI (o_F z ce st x)) → Post (gd, gj, jm_u c kk u)) : ∀ n (u : Nat → Int32), n ≤ 2 ^ z → (∀ x, n ≤ x → x < 2 ^ z → u x = nI (o_F z ce st x)) → vc_X1_countInto_11 kk (nI (2 ^ z - 1)) Post (n + 1) (nI n - 1) (gd, gj, jm_u c kk u)
  | 0, u, hn, hu => by
    unfold vc_X1_countInto_11
    exact ⟨fun _ => hP u (fun x hx => hu x (Nat.zero_le x) hx), fun q => absurd (by decide) q⟩
  | m + 1, u, hn, hu => by
    obtain ⟨hz, e67, hrow⟩ := id hG
    have h64 : 2 ^ z ≤ 2 ^ 6 := Nat.pow_le_pow_right (by omega) hz
    have hm : m < 2 ^ z := by omega
    have hG2 : o_G z nu ce ((gd, gj, jm_u c kk u) : cm_M).2.2 := by
      rcases hkk with rfl | rfl <;> exact hG
    have f62 : ((gd, gj, jm_u c kk u) : cm_M).2.2 62 m = c 62 m := by
      rcases hkk with rfl | rfl <;> rfl
    have hF : ∀ x, m < x → x < 2 ^ z → ((gd, gj, jm_u c kk u) : cm_M).2.2 kk x = nI (o_F z ce st x) := fun x h1 h2 => by
      show (jm_u c kk u) kk x = _
      rw [jm_uk]; exact hu x (by omega) h2
    have step : ∀ y : Nat, o_F z ce st m = oc (st m) y 0 → (vp_in (nI m) 64 ∧ (((((gd, gj, jm_u c kk u) : cm_M).2.2 62 (nI m).toNatClampNeg) = 0 → (vp_in (nI m) 64 ∧ (∀ g10 : cm_M, g10 = cm_a (gd, gj, jm_u c kk u) kk (nI m) 0 → vc_X1_countInto_11 kk (nI (2 ^ z - 1)) Post (m + 1) (nI m + (-1)) g10))) ∧ ((¬ (((gd, gj, jm_u c kk u) : cm_M).2.2 62 (nI m).toNatClampNeg) = 0) → (vp_in (nI m) 64 ∧ (∀ g11 : cm_M, g11 = cm_a (gd, gj, jm_u c kk u) kk (nI m) (nI y) → vc_X1_countInto_11 kk (nI (2 ^ z - 1)) Post (m + 1) (nI m + (-1)) g11))))) := by
      intro y hy
      have ea : ∀ x : Int32, cm_a (gd, gj, jm_u c kk u) kk (nI m) x = (gd, gj, jm_u c kk (upd u m x)) := fun x => by
        show (gd, gj, jm_a (jm_u c kk u) kk (nI m) x) = _
        rw [jm_as _ _ _ (by omega), jm_uk, jm_uu]
      have fin : ∀ x : Int32, x = nI (o_F z ce st m) → vc_X1_countInto_11 kk (nI (2 ^ z - 1)) Post (m + 1) (nI m + (-1)) (gd, gj, jm_u c kk (upd u m x)) := fun x hx => by
        rw [← n1_e]
        refine ci11 hG hkk st hst Post hP m _ (by omega) (fun w h1 h2 => ?_)
        by_cases e : w = m
        · rw [e, pk_us]; exact hx
        · rw [pk_un e]; exact hu w (by omega) h2
      rw [tn_nI (by omega), f62, hst m hm]
      refine ⟨vp_in_nI (by omega) (by omega), fun q => ⟨vp_in_nI (by omega) (by omega), nm_e ?_⟩, fun q => ⟨vp_in_nI (by omega) (by omega), nm_e ?_⟩⟩
      · rw [ea]; exact fin 0 (by rw [hy, oc_n q]; rfl)
      · rw [ea]; exact fin (nI y) (by rw [hy, oc_y (Classical.not_not.mp q)])
    unfold vc_X1_countInto_11
    rw [nI_pred]
    refine ⟨fun q => absurd q (nI_pos (by omega)), fun _ => ⟨fun q => ⟨z + 1, ?_⟩, fun q => ⟨z + 1, ?_⟩⟩⟩
    · have hne : m ≠ 2 ^ z - 1 := fun e => q (by rw [e])
      have hpc := pc_less hz hm hne
      obtain ⟨k, hk⟩ : ∃ k, z - q_pc m = k + 1 := ⟨z - q_pc m - 1, by omega⟩
      have := ci30 (x2 := nI (2 ^ z - 1)) (b0 := 0) hG2 hm hF (fun (y8 : Int32) => (vp_in (nI m) 64) ∧ (((((gd, gj, jm_u c kk u) : cm_M).2.2 62 (nI m).toNatClampNeg) = 0 → ((vp_in (nI m) 64) ∧ (∀ g10 : cm_M, g10 = cm_a (gd, gj, jm_u c kk u) kk (nI m) 0 → (vc_X1_countInto_11 kk (nI (2 ^ z - 1)) Post (m + 1) (nI m + (-1)) g10)))) ∧ ((¬ (((gd, gj, jm_u c kk u) : cm_M).2.2 62 (nI m).toNatClampNeg) = 0) → ((vp_in (nI m) 64) ∧ (∀ g11 : cm_M, g11 = cm_a (gd, gj, jm_u c kk u) kk (nI m) y8 → (vc_X1_countInto_11 kk (nI (2 ^ z - 1)) Post (m + 1) (nI m + (-1)) g11)))))) Post (step _ ?_) z 0 (by omega)
      · exact this
      · unfold o_F
        rw [hk, Nat.zero_add]
        show oc (st m) (sS (fun i => oc (o_cn ce i m) (oX z ce st k (m ||| 2 ^ i)) 0) z) 0 = _
        have e2 : sS (fun i => oc (o_cn ce i m) (oX z ce st k (m ||| 2 ^ i)) 0) z = sS (fun i => oc (o_cn ce i m) (oX z ce st (z - q_pc (m ||| 2 ^ i)) (m ||| 2 ^ i)) 0) z := sS_ext z (fun i hi => by
          rcases Classical.em (o_cn ce i m) with w | w
          · rw [oc_y w, oc_y w, pc_cn hz hi w, show z - (q_pc m + 1) = k by omega]
          · rw [oc_n w, oc_n w])
        rw [e2]
    · have hne : m = 2 ^ z - 1 := (nI_eq (by omega) (by omega)).mp q
      have := ci30 (x2 := nI (2 ^ z - 1)) (b0 := 1) hG2 hm hF (fun (y8 : Int32) => (vp_in (nI m) 64) ∧ (((((gd, gj, jm_u c kk u) : cm_M).2.2 62 (nI m).toNatClampNeg) = 0 → ((vp_in (nI m) 64) ∧ (∀ g10 : cm_M, g10 = cm_a (gd, gj, jm_u c kk u) kk (nI m) 0 → (vc_X1_countInto_11 kk (nI (2 ^ z - 1)) Post (m + 1) (nI m + (-1)) g10)))) ∧ ((¬ (((gd, gj, jm_u c kk u) : cm_M).2.2 62 (nI m).toNatClampNeg) = 0) → ((vp_in (nI m) 64) ∧ (∀ g11 : cm_M, g11 = cm_a (gd, gj, jm_u c kk u) kk (nI m) y8 → (vc_X1_countInto_11 kk (nI (2 ^ z - 1)) Post (m + 1) (nI m + (-1)) g11)))))) Post (step _ ?_) z 0 (by omega)
      · exact this
      · have e0 : sS (fun i => oc (o_cn ce i m) (o_F z ce st (m ||| 2 ^ i)) 0) z = 0 := sS_0 z (fun i hi => oc_n (fun w => by
          have := w.1
          rw [hne, all_bit hi] at this
          exact absurd this (by decide)))
        rw [e0]
        unfold o_F
        rw [hne, pc_all hz, Nat.sub_self]
        rfl
theorem ci_of {z kk : Nat} {nu ce : Nat → Nat} {gd : cm_D} {gj : cm_J} {c : jm_M} (hG : o_G z nu ce c) (hkk : kk = 60 ∨ kk = 61) (st : Nat → Prop) (hst : ∀ x, x < 2 ^ z → (c 62 x = 0 ↔ ¬ st x)) (Post : cm_M → Prop) (hP : ∀ u : Nat → Int32, (∀ x, x < 2 ^ z → u x = nI (o_F z ce st x)) → Post (gd, gj, jm_u c kk u)) : vc_X1_countInto kk (gd, gj, c) Post := by
  obtain ⟨hz, e67, hrow⟩ := id hG
  have f67 : ((gd, gj, c) : cm_M).2.2 67 0 = nI z := e67
  have h1 : (1 : Int32) <<< (nI z &&& 31) - 1 = nI (2 ^ z) - 1 := by rw [nI_shl1 (by omega)]
  have hp2 := Nat.two_pow_pos z
  have h2 : nI (2 ^ z) - 1 = nI (2 ^ z - 1) := by
    obtain ⟨k, hk⟩ : ∃ k, 2 ^ z = k + 1 := ⟨2 ^ z - 1, by omega⟩
    rw [hk, nI_pred]; rfl
  unfold vc_X1_countInto
  rw [f67, h1]
  intro y1 hy1
  refine ⟨2 ^ z + 1, ?_⟩
  have := ci11 (gd := gd) (gj := gj) hG hkk st hst Post hP (2 ^ z) (c kk) (Nat.le_refl _) (fun x h1 h2 => by omega)
  rw [jm_u0, ← h2, ← hy1] at this
  exact this
