/-! orders, broken, worst -/
theorem gp_lt {z : Nat} (ce : Nat → Nat) (st : Nat → Prop) : ∀ m come (ok : Prop), oB z ce st m come ok ≠ 0 → ∀ j, j < m → o_gp z ce st m come ok j < z
  | 0, _, _, _, j, hj => absurd hj (Nat.not_lt_zero j)
  | m + 1, come, ok, hB, j, hj => by
    obtain ⟨i1, i2, i3⟩ := ls_is z (show sS (o_fB z ce st m come ok) z ≠ 0 from hB)
    cases j with
    | zero => exact i1
    | succ j => exact gp_lt ce st m _ _ (oc_0 i3).2 j (by omega)
theorem o_rel {B M T N z : Nat} {gd : cm_D} {gj : cm_J} {c Jc gR J : jm_M} (h : b_RR B M T N (gd, gj, c) gR) (hc : ∀ k, (k < 60 ∨ 67 < k) → Jc k = c k) (hz : z ≤ 6) (e67 : Jc 67 0 = nI z) (hr : ∀ k, k ≠ 13 → (k < 51 ∨ 56 < k) → J k = gR k) : b_R B (gd, gj, Jc) J := by
  obtain ⟨hT, hX, ht, hH, hW, hP, hA, hI⟩ := h
  have s1 : Jc = jm_o c Jc 60 67 := by
    funext x
    by_cases q : 60 ≤ x ∧ x ≤ 67
    · rw [jm_o_in _ _ q.1 q.2]
    · rw [jm_o_out _ _ (by omega)]; exact hc x (by omega)
  have s2 := jm_split (k := 13) (lo := 51) (hi := 56) gR J hr
  have hA2 : b_A Jc := ⟨⟨z, hz, e67⟩, by rw [s1]; exact hA.2⟩
  refine ⟨M, T, N, ?_, ?_, ?_, ?_, ?_, ?_, hA2, ?_⟩
  · show b_T M T N Jc J
    rw [s1, s2]; exact hT
  · rw [s2]; exact hX
  · show b_ties N Jc J
    rw [s1, s2]; exact ht
  · show b_H B T gd.2.1 Jc J
    rw [s1, s2]; exact hH
  · show b_W T Jc J
    rw [s1, s2]; exact hW
  · show b_P M Jc J
    rw [s1, s2]; exact hP
  · show b_I B gd Jc J
    rw [s1, s2]; exact hI
/-- what the three have in common: the letters that wait, at most six -/
theorem o_set {B M T N : Nat} {gd : cm_D} {gj : cm_J} {c gR : jm_M} (h : b_RR B M T N (gd, gj, c) gR) : ∃ (S z : Nat) (nu ce : Nat → Nat), z ≤ 40 ∧ c 41 0 = nI z ∧ (∀ P : Int32 → Prop, P (nI z) → vr_waitingNow gR P) ∧ (z ≤ 6 → z = (b_wl (gR 45) S).length ∧ S ≤ 2000 ∧ gR 40 0 = nI S ∧ (∀ l, l < S → gR 45 l = 0 ∨ gR 45 l = 1) ∧ (∀ j, j < z → nu j = (b_wl (gR 45) S).getD j 0) ∧ (∀ j, j < z → nu j < 2000 ∧ gR 41 (nu j) = nI (ce j) ∧ ce j < 128) ∧ o_W T z gd.2.1 nu ce (fun j => gR 42 (nu j)) c) := by
  obtain ⟨hT, hX, ht, ⟨hy, hr, hk, hu, hS, hL⟩, hW, hP, hA, hI⟩ := h
  have hT16 : T ≤ 16 := hT.2.1
  obtain ⟨S, e, l1, l2, l3, l4, l5, l6, l7, l8, l9, l10, l11⟩ := id hL
  refine ⟨S, (b_wl (gR 45) S).length, fun j => (b_wl (gR 45) S).getD j 0, fun j => q_v (gR 41 ((b_wl (gR 45) S).getD j 0)), l9, l10, fun P hp => vr_waitingNow_of hL (by rw [l10]; exact hp), fun hz => ⟨rfl, l1, l3, fun l hl => ?_, fun j _ => rfl, fun j hj => ?_, hT16, hz, l6, l7, fun j hj => ?_⟩⟩
  · obtain ⟨k, f, t, b1, b2, b3, b4, b5, b6, b7, b8, b9⟩ := l8 l hl
    exact b9
  · have hm := (wl_mem (gR 45) S _).mp (gd_mem hj)
    obtain ⟨k, f, t, b1, b2, b3, b4, b5, b6, b7, b8, b9⟩ := l8 _ hm.1
    refine ⟨by show (b_wl (gR 45) S).getD j 0 < 2000; omega, ?_, ?_⟩
    · show gR 41 ((b_wl (gR 45) S).getD j 0) = nI (q_v (gR 41 ((b_wl (gR 45) S).getD j 0)))
      rw [b4, v_nI (by omega)]
    · show q_v (gR 41 ((b_wl (gR 45) S).getD j 0)) < 128
      rw [b4, v_nI (by omega)]; omega
  · have hm := (wl_mem (gR 45) S _).mp (gd_mem hj)
    obtain ⟨k, f, t, b1, b2, b3, b4, b5, b6, b7, b8, b9⟩ := l8 _ hm.1
    have ek : q_v (gR 41 ((b_wl (gR 45) S).getD j 0)) = k := by rw [b4, v_nI (by omega)]
    have l4' : S ≤ gd.2.1 2 := l4
    refine ⟨l11 j hj, by show (b_wl (gR 45) S).getD j 0 < 2000; omega, by show (b_wl (gR 45) S).getD j 0 < gd.2.1 2; omega, by show q_v (gR 41 ((b_wl (gR 45) S).getD j 0)) < 8 * T; omega, ⟨f, t, b2, b3, ?_⟩, b8⟩
    show c 37 ((b_wl (gR 45) S).getD j 0) = nI ((q_v (gR 41 ((b_wl (gR 45) S).getD j 0)) * 6 + f) * 6 + t)
    rw [ek]; exact b7
theorem op_orders {B : Nat} {gC : cm_M} {gR : jm_M} (h : b_R B gC gR) : b_sim2 B 0 0 (fun _ _ => vc_X10_orders gC) (vr_orders gR) := by
  obtain ⟨M, T, N, hh⟩ := id h
  obtain ⟨gd, gj, c⟩ := gC
  obtain ⟨S, z, nu, ce, z40, e41, wn, hset⟩ := o_set hh
  intro MC MS P _ _ hp
  show vc_X10_orders (gd, gj, c) P
  unfold vc_X10_orders
  rw [show ((gd, gj, c) : cm_M).2.2 41 0 = nI z from e41]
  have c6 : nI z ≤ 6 ↔ z ≤ 6 := nI_leI (b := 6) (by omega) (by omega)
  refine ⟨fun q => ?_, fun q => hp _ _ (fun P2 hp2 => wn _ ⟨fun w => absurd w q, fun _ => hp2 _ h⟩)⟩
  have hz := c6.mp q
  obtain ⟨s1, s2, s3, s4, s5, s6, s7⟩ := hset hz
  refine gather_of s7 e41 _ (fun J j1 j2 j3 j4 => ?_)
  have f60 : ((gd, gj, J) : cm_M).2.2 60 (0 : Int32).toNatClampNeg = nI (oX z ce (fun _ => True) z 0) := by
    show J 60 0 = _
    rw [j3 0 (Nat.two_pow_pos z)]
    unfold o_F
    rw [pc_0, Nat.sub_zero]
  rw [f60]
  refine hp _ _ (fun P2 hp2 => wn _ ⟨fun _ => ?_, fun w => absurd q w⟩)
  refine shuf_of (st := fun _ => True) s1 hz s2 s3 s4 s5 s6 (fun J0 _ _ => Or.inl ⟨by decide, fun _ => trivial⟩) _ (fun J' q1 q2 q3 q4 q5 => ?_)
  rw [q3]
  exact hp2 _ (o_rel hh j4 hz j1.2.1 q1)
theorem op_broken {B : Nat} {gC : cm_M} {gR : jm_M} (h : b_R B gC gR) (a : Int32) : b_sim2 B 0 0 (fun _ _ => vc_X10_broken a gC) (vr_broken a gR) := by
  obtain ⟨M, T, N, hh⟩ := id h
  obtain ⟨gd, gj, c⟩ := gC
  obtain ⟨hT, hX, ht, hH, hW, hP, hA, hI⟩ := id hh
  have hT16 : T ≤ 16 := hT.2.1
  obtain ⟨K, w1, w2, w3, w4, w5, w6, w7, w8⟩ := id hW
  obtain ⟨⟨y1, y2, y3⟩, -⟩ := id hH
  obtain ⟨S, z, nu, ce, z40, e41, wn, hset⟩ := o_set hh
  intro MC MS P _ _ hp
  show vc_X10_broken a (gd, gj, c) P
  unfold vc_X10_broken
  rw [vc_has_iff w2, show ((gd, gj, c) : cm_M).2.2 41 0 = nI z from e41]
  have c6 : nI z ≤ 6 ↔ z ≤ 6 := nI_leI (b := 6) (by omega) (by omega)
  rcases ix_cases a (n := K) (by omega) with h1 | ⟨l, hl, rfl, h1⟩
  · rw [if_pos h1]
    refine ⟨fun w => absurd rfl w, fun _ => hp _ _ (fun P2 hp2 => ?_)⟩
    unfold vr_broken
    rw [vr_isLaw_iff w1 w3, if_pos h1]
    exact ⟨fun w => absurd rfl w, fun _ => hp2 _ h⟩
  · rw [if_neg h1]
    have rstart : ∀ P2 : Int32 → jm_M → Prop, vr_waitingNow gR (fun (r3 : Int32) => ((r3 ≤ 6) → (vr_shuffle (nI l) gR (fun (g6 : jm_M) => P2 (g6 56 0) g6))) ∧ ((¬ r3 ≤ 6) → (P2 (-4) gR))) → vr_broken (nI l) gR P2 := fun P2 hq => by
      unfold vr_broken
      rw [vr_isLaw_iff w1 w3, if_neg h1]
      exact ⟨fun _ => hq, fun w => absurd w (by decide)⟩
    refine ⟨fun _ => ⟨fun q => ?_, fun q => hp _ _ (fun P2 hp2 => rstart P2 (wn _ ⟨fun w => absurd w q, fun _ => hp2 _ h⟩))⟩, fun w => absurd w (by decide)⟩
    have hz := c6.mp q
    obtain ⟨s1, s2, s3, s4, s5, s6, s7⟩ := hset hz
    obtain ⟨t, ht6, et, hct⟩ := w8 l (by omega)
    have hc1 : ∀ j, j < t → ∃ k : Nat, k < 128 ∧ gR 49 (6 * l + j) = nI k := fun j hj => by
      obtain ⟨k, hk, ek⟩ := hct j hj
      exact ⟨k, by omega, ek⟩
    refine gather_of s7 e41 _ (fun J j1 j2 j3 j4 => ?_)
    have k55 : J 55 l = nI t := by rw [j4 55 (by decide), show c 55 = gR 48 from w5]; exact et
    have k57 : ∀ j, j < t → ∃ k : Nat, k < 128 ∧ J 57 (6 * l + j) = nI k := by rw [j4 57 (by decide), show c 57 = gR 49 from w6]; exact hc1
    refine watch_of j1 (by omega) ht6 k55 k57 _ (fun s u hs hu => ?_)
    have f60 : ((gd, gj, jm_u (jm_u J 62 s) 61 u) : cm_M).2.2 60 (0 : Int32).toNatClampNeg = nI (oX z ce (fun _ => True) z 0) := by
      show J 60 0 = _
      rw [j3 0 (Nat.two_pow_pos z)]
      unfold o_F
      rw [pc_0, Nat.sub_zero]
    have f61 : ((gd, gj, jm_u (jm_u J 62 s) 61 u) : cm_M).2.2 61 (0 : Int32).toNatClampNeg = nI (oX z ce (o_st J l t z) z 0) := by
      show (jm_u (jm_u J 62 s) 61 u) 61 0 = _
      rw [jm_uk, hu 0 (Nat.two_pow_pos z)]
      unfold o_F
      rw [pc_0, Nat.sub_zero]
    have hall := oB_all z ce (o_st J l t z) z 0 True
    rw [oc_y trivial] at hall
    rw [f60, f61, pk_sub (by omega), show oX z ce (fun _ => True) z 0 - oX z ce (o_st J l t z) z 0 = oB z ce (o_st J l t z) z 0 True by omega]
    refine hp _ _ (fun P2 hp2 => rstart P2 (wn _ ⟨fun _ => ?_, fun w => absurd q w⟩))
    refine shuf_of (st := o_st J l t z) s1 hz s2 s3 s4 s5 s6 (fun J0 hJ0 hR0 => br_of ⟨by omega, ht6, by rw [hJ0 48 (by decide)]; exact et, by rw [hJ0 49 (by decide)]; exact hc1, by rw [j4 58 (by decide), hJ0 50 (by decide)]; exact w7, by rw [j4 57 (by decide), hJ0 49 (by decide)]; exact w6, by rw [j4 56 (by decide), hJ0 47 (by decide)]; exact w4⟩ hR0 (fun x hx => ⟨(j1.2.2 x hx).2.2.1, (j1.2.2 x hx).2.2.2.1⟩) (fun x hx => by rw [j2 x hx, hJ0 42 (by decide)]) (fun i hi => by rw [j4 26 (by decide), hJ0 12 (by decide)]; exact y2 i hi)) _ (fun J' q1 q2 q3 q4 q5 => ?_)
    rw [q4]
    exact hp2 _ (o_rel hh (fun k hk => by rw [jm_un _ _ (by omega), jm_un _ _ (by omega)]; exact j4 k hk) hz j1.2.1 q1)
theorem op_worst {B : Nat} {gC : cm_M} {gR : jm_M} (h : b_R B gC gR) (a b : Int32) : b_sim2 B 0 0 (fun _ _ => vc_X10_worst a b gC) (vr_worst a b gR) := by
  obtain ⟨M, T, N, hh⟩ := id h
  obtain ⟨gd, gj, c⟩ := gC
  obtain ⟨hT, hX, ht, hH, hW, hP, hA, hI⟩ := id hh
  have hT16 : T ≤ 16 := hT.2.1
  obtain ⟨K, w1, w2, w3, w4, w5, w6, w7, w8⟩ := id hW
  obtain ⟨⟨y1, y2, y3⟩, -⟩ := id hH
  obtain ⟨S, z, nu, ce, z40, e41, wn, hset⟩ := o_set hh
  intro MC MS P _ _ hp
  show vc_X10_worst a b (gd, gj, c) P
  unfold vc_X10_worst
  rw [vc_has_iff w2, show ((gd, gj, c) : cm_M).2.2 41 0 = nI z from e41]
  have c6 : nI z ≤ 6 ↔ z ≤ 6 := nI_leI (b := 6) (by omega) (by omega)
  rcases ix_cases a (n := K) (by omega) with h1 | ⟨l, hl, rfl, h1⟩
  · rw [if_pos h1]
    refine ⟨fun w => absurd rfl w, fun _ => hp _ _ (fun P2 hp2 => ?_)⟩
    unfold vr_worst
    rw [vr_isLaw_iff w1 w3, if_pos h1]
    exact ⟨fun w => absurd rfl w, fun _ => hp2 _ h⟩
  · rw [if_neg h1]
    have rstart : ∀ P2 : Int32 → jm_M → Prop, vr_waitingNow gR (fun (r3 : Int32) => ((r3 ≤ 6) → (vr_shuffle (nI l) gR (fun (g6 : jm_M) => (((g6 56 0) ≤ 0) → (P2 (-1) g6)) ∧ ((¬ (g6 56 0) ≤ 0) → (vr_in b 0 ((g6 51 0) - 1) g6 (fun (r8 : Int32) => ((r8 = 0) → (P2 (-1) g6)) ∧ ((¬ r8 = 0) → ((vp_in b 6) ∧ (P2 (g6 54 b.toNatClampNeg) g6))))))))) ∧ ((¬ r3 ≤ 6) → (P2 (-4) gR))) → vr_worst (nI l) b gR P2 := fun P2 hq => by
      unfold vr_worst
      rw [vr_isLaw_iff w1 w3, if_neg h1]
      exact ⟨fun _ => hq, fun w => absurd w (by decide)⟩
    refine ⟨fun _ => ⟨fun q => ?_, fun q => hp _ _ (fun P2 hp2 => rstart P2 (wn _ ⟨fun w => absurd w q, fun _ => hp2 _ h⟩))⟩, fun w => absurd w (by decide)⟩
    have hz := c6.mp q
    obtain ⟨s1, s2, s3, s4, s5, s6, s7⟩ := hset hz
    obtain ⟨t, ht6, et, hct⟩ := w8 l (by omega)
    have hc1 : ∀ j, j < t → ∃ k : Nat, k < 128 ∧ gR 49 (6 * l + j) = nI k := fun j hj => by
      obtain ⟨k, hk, ek⟩ := hct j hj
      exact ⟨k, by omega, ek⟩
    refine gather_of s7 e41 _ (fun J j1 j2 j3 j4 => ?_)
    have k55 : J 55 l = nI t := by rw [j4 55 (by decide), show c 55 = gR 48 from w5]; exact et
    have k57 : ∀ j, j < t → ∃ k : Nat, k < 128 ∧ J 57 (6 * l + j) = nI k := by rw [j4 57 (by decide), show c 57 = gR 49 from w6]; exact hc1
    refine watch_of j1 (by omega) ht6 k55 k57 _ (fun s u hs hu => ?_)
    obtain ⟨st, hst⟩ : ∃ st, st = o_st J l t z := ⟨_, rfl⟩
    rw [← hst] at hs hu
    have f60 : ((gd, gj, jm_u (jm_u J 62 s) 61 u) : cm_M).2.2 60 (0 : Int32).toNatClampNeg = nI (oX z ce (fun _ => True) z 0) := by
      show J 60 0 = _
      rw [j3 0 (Nat.two_pow_pos z)]
      unfold o_F
      rw [pc_0, Nat.sub_zero]
    have f61 : ((gd, gj, jm_u (jm_u J 62 s) 61 u) : cm_M).2.2 61 (0 : Int32).toNatClampNeg = nI (oX z ce st z 0) := by
      show (jm_u (jm_u J 62 s) 61 u) 61 0 = _
      rw [jm_uk, hu 0 (Nat.two_pow_pos z)]
      unfold o_F
      rw [pc_0, Nat.sub_zero]
    have hall := oB_all z ce st z 0 True
    rw [oc_y trivial] at hall
    have b1 := oX_le z hz ce (fun _ => True) z 0
    have b2 := oX_le z hz ce st z 0
    have b3 : 6 ^ z ≤ 6 ^ 6 := Nat.pow_le_pow_right (by omega) hz
    have eeq : nI (oX z ce (fun _ => True) z 0) = nI (oX z ce st z 0) ↔ oB z ce st z 0 True = 0 := by
      rw [nI_eq (by omega) (by omega)]; omega
    have rel : ∀ J' : jm_M, (∀ k, k ≠ 13 → (k < 51 ∨ 56 < k) → J' k = gR k) → b_R B (gd, gj, jm_u (jm_u J 62 s) 61 u) J' := fun J' q1 => o_rel hh (fun k hk => by rw [jm_un _ _ (by omega), jm_un _ _ (by omega)]; exact j4 k hk) hz j1.2.1 q1
    have ref : ∀ P2 : Int32 → jm_M → Prop, (∀ J' : jm_M, (∀ k, k ≠ 13 → (k < 51 ∨ 56 < k) → J' k = gR k) → J' 51 0 = nI z → J' 56 0 = nI (oB z ce st z 0 True) → (oB z ce st z 0 True ≠ 0 → ∀ j, j < z → J' 54 j = nI (nu (o_gp z ce st z 0 True j))) → (((J' 56 0) ≤ 0) → (P2 (-1) J')) ∧ ((¬ (J' 56 0) ≤ 0) → (vr_in b 0 ((J' 51 0) - 1) J' (fun (r8 : Int32) => ((r8 = 0) → (P2 (-1) J')) ∧ ((¬ r8 = 0) → ((vp_in b 6) ∧ (P2 (J' 54 b.toNatClampNeg) J'))))))) → vr_worst (nI l) b gR P2 := by
      intro P2 hq
      refine rstart P2 (wn _ ⟨fun _ => ?_, fun w => absurd q w⟩)
      exact shuf_of (st := st) s1 hz s2 s3 s4 s5 s6 (fun J0 hJ0 hR0 => by rw [hst]; exact br_of ⟨by omega, ht6, by rw [hJ0 48 (by decide)]; exact et, by rw [hJ0 49 (by decide)]; exact hc1, by rw [j4 58 (by decide), hJ0 50 (by decide)]; exact w7, by rw [j4 57 (by decide), hJ0 49 (by decide)]; exact w6, by rw [j4 56 (by decide), hJ0 47 (by decide)]; exact w4⟩ hR0 (fun x hx => ⟨(j1.2.2 x hx).2.2.1, (j1.2.2 x hx).2.2.2.1⟩) (fun x hx => by rw [j2 x hx, hJ0 42 (by decide)]) (fun i hi => by rw [j4 26 (by decide), hJ0 12 (by decide)]; exact y2 i hi)) _ (fun J' q1 q2 q3 q4 q5 => hq J' q1 q2 q4 q5)
    have f67 : ((gd, gj, jm_u (jm_u J 62 s) 61 u) : cm_M).2.2 67 0 = nI z := j1.2.1
    unfold vc_X1_ofFirstBroken
    rw [f60, f61, f67, eeq]
    rcases ix_cases b (n := z) (by omega) with h2 | ⟨i, hi, rfl, h2⟩
    · have bad : ∀ P2 : Int32 → jm_M → Prop, (∀ g2, b_R B (gd, gj, jm_u (jm_u J 62 s) 61 u) g2 → P2 (-1) g2) → vr_worst (nI l) b gR P2 := fun P2 hp2 => ref P2 (fun J' q1 q2 q3 q4 => by
        refine ⟨fun _ => hp2 _ (rel J' q1), fun _ => ?_⟩
        rw [vr_idx (by omega) _ _ q2, if_pos h2]
        exact ⟨fun _ => hp2 _ (rel J' q1), fun w => absurd rfl w⟩)
      refine ⟨fun _ => hp _ _ bad, fun w => ⟨fun _ => hp _ _ bad, fun w2 => ?_⟩⟩
      rcases h2 with h2 | h2
      · exact absurd h2 w
      · exact absurd h2 w2
    · refine ⟨fun w => absurd (Or.inl w) h2, fun _ => ⟨fun w => absurd (Or.inr w) h2, fun _ => ⟨fun hne => ?_, fun e0 => hp _ _ (fun P2 hp2 => ref P2 (fun J' q1 q2 q3 q4 => ?_))⟩⟩⟩
      · have hglt := gp_lt ce st z 0 True hne i hi
        have hG7 : o_G z nu ce (jm_u (jm_u J 62 s) 61 u) := j1
        have f63 : ((gd, gj, jm_u (jm_u J 62 s) 61 u) : cm_M).2.2 63 (o_gp z ce st z 0 True i) = nI (nu (o_gp z ce st z 0 True i)) := (j1.2.2 _ hglt).1
        refine ⟨i + 2, ob_loop (g := (gd, gj, jm_u (jm_u J 62 s) 61 u)) (st := st) hG7 j3 (fun x hx => by show (jm_u (jm_u J 62 s) 61 u) 61 x = _; rw [jm_uk]; exact hu x hx) hs hi _ _ i 0 0 True 0 0 (by omega) (Nat.two_pow_pos z) pc_0 ⟨fun _ => trivial, fun _ => rfl⟩ (by rw [Nat.sub_zero]; exact hne) ?_⟩
        rw [Nat.sub_zero]
        refine ⟨vp_in_nI (by omega) (by omega), ?_⟩
        rw [tn_nI (by omega), f63]
        refine hp _ _ (fun P2 hp2 => ref P2 (fun J' q1 q2 q3 q4 => ?_))
        rw [q3]
        refine ⟨fun w => absurd w (nI_nle (by omega) (by omega)), fun _ => ?_⟩
        rw [vr_idx (by omega) _ _ q2, if_neg h2, tn_nI (by omega), q4 hne i hi]
        exact ⟨fun w => absurd w (by decide), fun _ => ⟨vp_in_nI (by omega) (by omega), hp2 _ (rel J' q1)⟩⟩
      · rw [q3, e0]
        exact ⟨fun _ => hp2 _ (rel J' q1), fun w => absurd (by decide) w⟩
