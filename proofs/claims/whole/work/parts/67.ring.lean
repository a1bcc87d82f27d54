/-! rings: which rooms lead to which -/
def rg_d (r : jm_M) (M N i j a b : Nat) : Prop := ∃ m q, (m < i ∨ (m = i ∧ q < j)) ∧ m < M ∧ q < M ∧ q_v (r 30 m) = a ∧ q_v (r 30 q) = b ∧ b_cnt (r 6) (r 7) (r 8) (r 9) (10 * m + q) N ≠ 0
theorem rg_step {r : jm_M} {M N i j : Nat} (hi : i < M) (hj : j < M) (a b : Nat) : rg_d r M N i (j + 1) a b ↔ rg_d r M N i j a b ∨ (q_v (r 30 i) = a ∧ q_v (r 30 j) = b ∧ b_cnt (r 6) (r 7) (r 8) (r 9) (10 * i + j) N ≠ 0) := by
  refine ⟨fun ⟨m, q, h1, h2, h3, h4, h5, h6⟩ => ?_, fun h => ?_⟩
  · by_cases e : m = i ∧ q = j
    · obtain ⟨rfl, rfl⟩ := e; exact Or.inr ⟨h4, h5, h6⟩
    · exact Or.inl ⟨m, q, by omega, h2, h3, h4, h5, h6⟩
  · rcases h with ⟨m, q, h1, h2, h3, h4, h5, h6⟩ | ⟨h4, h5, h6⟩
    · exact ⟨m, q, by omega, h2, h3, h4, h5, h6⟩
    · exact ⟨i, j, by omega, hi, hj, h4, h5, h6⟩
theorem rg_next {r : jm_M} {M N i : Nat} (a b : Nat) : rg_d r M N (i + 1) 0 a b ↔ rg_d r M N i M a b :=
  ⟨fun ⟨m, q, h1, h2, h3, h4⟩ => ⟨m, q, by omega, h2, h3, h4⟩, fun ⟨m, q, h1, h2, h3, h4⟩ => ⟨m, q, by omega, h2, h3, h4⟩⟩
theorem tied_is {M T N m q : Nat} {gR : jm_M} (hX : b_X M T N gR) (r5 : gR 5 0 = nI N) (hM : M ≤ 10) (hT16 : T ≤ 16) (hN : N ≤ 40) (hm : m < M) (hq : q < M) (P : Int32 → Prop) (h1 : b_cnt (gR 6) (gR 7) (gR 8) (gR 9) (10 * m + q) N ≠ 0 → P 1) (h0 : b_cnt (gR 6) (gR 7) (gR 8) (gR 9) (10 * m + q) N = 0 → P 0) : vr_isTied 0 (nI m) (nI q) gR P := by
  refine ⟨N + 1, ?_⟩
  have e0 : b_cnt (gR 6) (gR 7) (gR 8) (gR 9) (10 * m + q) 0 = 0 := rfl
  refine tied_out hX r5 hM hT16 hN hm (p := 10 * m + q) (q := q) (Or.inl ⟨rfl, hq, rfl⟩) P N 0 (by omega) (fun e => ?_) (fun e => ?_)
  · rw [e0] at e; exact h0 e.symm
  · rw [e0] at e; exact h1 (by omega)
/-- what both know of rooms and ties -/
def rg_ok (M T N : Nat) (r : jm_M) : Prop := M ≤ 10 ∧ T ≤ 16 ∧ N ≤ 40 ∧ b_X M T N r ∧ r 1 0 = nI M ∧ r 5 0 = nI N ∧ ∀ i, i < 10 → q_v (r 30 i) < 6 ∧ r 30 i = nI (q_v (r 30 i))
theorem lf2 {r : jm_M} : ∀ d i (v : Nat → Int32), i + d = 36 → (∀ j, j < i → v j = 0) → ∃ v' : Nat → Int32, (∀ j, j < 36 → v' j = 0) ∧ ∀ K Post : jm_M → Prop, K (jm_u r 38 v') → vr_findLeads_2 K Post (d + 1) (nI i) (jm_u r 38 v)
  | 0, i, v, hi, hv => by
    obtain rfl : i = 36 := by omega
    refine ⟨v, hv, fun K Post hK => ?_⟩
    unfold vr_findLeads_2
    exact ⟨fun _ => hK, fun q => absurd (by decide) q⟩
  | d + 1, i, v, hi, hv => by
    obtain ⟨v', h1, h2⟩ := lf2 (r := r) d (i + 1) (upd v i 0) (by omega) (fun j hj => by
      by_cases q : j = i
      · rw [q, pk_us]
      · rw [pk_un q]; exact hv j (by omega))
    refine ⟨v', h1, fun K Post hK => ?_⟩
    unfold vr_findLeads_2
    refine ⟨fun q => absurd q (nI_ge (b := 36) (by omega) (by omega)), fun _ => ⟨vp_in_nI (by omega) (by omega), nm_e ?_⟩⟩
    rw [jm_as _ _ _ (by omega), jm_uk, jm_uu, nI_1]
    exact h2 K Post hK
def rg_v (r : jm_M) (M N i j : Nat) (v : Nat → Int32) : Prop := ∀ a b, a < 6 → b < 6 → (v (6 * a + b) ≠ 0 ↔ a ≠ b ∧ rg_d r M N i j a b)
theorem lf33 {M T N i : Nat} {r : jm_M} (ho : rg_ok M T N r) (hi : i < M) : ∀ d j (v : Nat → Int32), j + d = M → rg_v r M N i j v → ∃ v', rg_v r M N i M v' ∧ ∀ K Post : jm_M → Prop, K (jm_u r 38 v') → vr_findLeads_33 (nI i) K Post (d + 1) (nI j) (jm_u r 38 v)
  | 0, j, v, hj, hv => by
    obtain rfl : j = M := by omega
    obtain ⟨hM, hT16, hN, hX, r1, r5, h30⟩ := ho
    refine ⟨v, hv, fun K Post hK => ?_⟩
    unfold vr_findLeads_33
    rw [show (jm_u r 38 v) 1 0 = nI j from r1]
    exact ⟨fun _ => hK, fun q => absurd (nI_le (Nat.le_refl _) (by omega)) q⟩
  | d + 1, j, v, hj, hv => by
    obtain ⟨hM, hT16, hN, hX, r1, r5, h30⟩ := id ho
    have hjM : j < M := by omega
    have ti : (nI i).toNatClampNeg = i := tn_nI (by omega)
    have tj : (nI j).toNatClampNeg = j := tn_nI (by omega)
    obtain ⟨a6, ea⟩ := h30 i (by omega)
    obtain ⟨b6, eb⟩ := h30 j (by omega)
    obtain ⟨a, ha⟩ : ∃ a, a = q_v (r 30 i) := ⟨_, rfl⟩
    obtain ⟨b, hb⟩ : ∃ b, b = q_v (r 30 j) := ⟨_, rfl⟩
    have st := rg_step (r := r) (M := M) (N := N) hi hjM
    rw [← ha, ← hb] at st
    rw [← ha] at a6 ea
    rw [← hb] at b6 eb
    have fa : (jm_u r 38 v) 30 i = nI a := ea
    have fb : (jm_u r 38 v) 30 j = nI b := eb
    have ix : (6 : Int32) * nI a + nI b = nI (6 * a + b) := ij (k := 6) (by omega)
    have eo : nI a = nI b ↔ a = b := nI_eq (by omega) (by omega)
    by_cases q : a = b
    · obtain ⟨v', h1, h2⟩ := lf33 ho hi d (j + 1) v (by omega) (fun x y hx hy => by
        rw [hv x y hx hy, st]
        exact ⟨fun w => ⟨w.1, Or.inl w.2⟩, fun w => ⟨w.1, by rcases w.2 with u | ⟨u1, u2, u3⟩; exact u; exact absurd (u1.symm.trans (q.trans u2)) w.1⟩⟩)
      refine ⟨v', h1, fun K Post hK => ?_⟩
      unfold vr_findLeads_33
      rw [show (jm_u r 38 v) 1 0 = nI M from r1, ti, tj, fa, fb, ix, nI_1]
      exact ⟨fun q => absurd q (nI_ge (by omega) (by omega)), fun _ => ⟨vp_in_nI (by omega) (by omega), vp_in_nI (by omega) (by omega), fun _ => h2 K Post hK, fun w => absurd (eo.mpr q) w⟩⟩
    · by_cases w : b_cnt (r 6) (r 7) (r 8) (r 9) (10 * i + j) N = 0
      · obtain ⟨v', h1, h2⟩ := lf33 ho hi d (j + 1) v (by omega) (fun x y hx hy => by
          rw [hv x y hx hy, st]
          exact ⟨fun u => ⟨u.1, Or.inl u.2⟩, fun u => ⟨u.1, by rcases u.2 with u | ⟨u1, u2, u3⟩; exact u; exact absurd w u3⟩⟩)
        refine ⟨v', h1, fun K Post hK => ?_⟩
        unfold vr_findLeads_33
        rw [show (jm_u r 38 v) 1 0 = nI M from r1, ti, tj, fa, fb, ix, nI_1]
        exact ⟨fun q => absurd q (nI_ge (by omega) (by omega)), fun _ => ⟨vp_in_nI (by omega) (by omega), vp_in_nI (by omega) (by omega), fun u => absurd (eo.mp u) q, fun _ => tied_is (gR := jm_u r 38 v) hX r5 hM hT16 hN hi hjM _ (fun u => absurd w u) (fun _ => ⟨fun _ => h2 K Post hK, fun u => absurd rfl u⟩)⟩⟩
      · obtain ⟨v', h1, h2⟩ := lf33 ho hi d (j + 1) (upd v (6 * a + b) 1) (by omega) (fun x y hx hy => by
          rw [st]
          by_cases e : x = a ∧ y = b
          · obtain ⟨rfl, rfl⟩ := e
            rw [pk_us]
            exact ⟨fun _ => ⟨q, Or.inr ⟨rfl, rfl, w⟩⟩, fun _ => by decide⟩
          · rw [pk_un (by omega), hv x y hx hy]
            exact ⟨fun u => ⟨u.1, Or.inl u.2⟩, fun u => ⟨u.1, by rcases u.2 with u | ⟨u1, u2, u3⟩; exact u; exact absurd ⟨u1.symm, u2.symm⟩ e⟩⟩)
        refine ⟨v', h1, fun K Post hK => ?_⟩
        unfold vr_findLeads_33
        rw [show (jm_u r 38 v) 1 0 = nI M from r1, ti, tj, fa, fb, ix, nI_1]
        refine ⟨fun q => absurd q (nI_ge (by omega) (by omega)), fun _ => ⟨vp_in_nI (by omega) (by omega), vp_in_nI (by omega) (by omega), fun u => absurd (eo.mp u) q, fun _ => tied_is (gR := jm_u r 38 v) hX r5 hM hT16 hN hi hjM _ (fun _ => ⟨fun u => absurd u (by decide), fun _ => ⟨vp_in_nI (by omega) (by omega), vp_in_nI (by omega) (by omega), vp_in_nI (by omega) (by omega), nm_e ?_⟩⟩) (fun u => absurd u w)⟩⟩
        rw [jm_as _ _ _ (by omega), jm_uk, jm_uu]
        exact h2 K Post hK
theorem lf23 {M T N : Nat} {r : jm_M} (ho : rg_ok M T N r) : ∀ d i (v : Nat → Int32), i + d = M → rg_v r M N i 0 v → ∃ v', rg_v r M N M 0 v' ∧ ∀ Post : jm_M → Prop, Post (jm_u r 38 v') → vr_findLeads_23 Post (d + 1) (nI i) (jm_u r 38 v)
  | 0, i, v, hi, hv => by
    obtain rfl : i = M := by omega
    obtain ⟨hM, hT16, hN, hX, r1, r5, h30⟩ := ho
    refine ⟨v, hv, fun Post hK => ?_⟩
    unfold vr_findLeads_23
    rw [show (jm_u r 38 v) 1 0 = nI i from r1]
    exact ⟨fun _ => hK, fun q => absurd (nI_le (Nat.le_refl _) (by omega)) q⟩
  | d + 1, i, v, hi, hv => by
    obtain ⟨hM, hT16, hN, hX, r1, r5, h30⟩ := id ho
    obtain ⟨v1, h1, h2⟩ := lf33 ho (show i < M by omega) M 0 v (by omega) hv
    obtain ⟨v2, h3, h4⟩ := lf23 ho d (i + 1) v1 (by omega) (fun x y hx hy => by rw [h1 x y hx hy, rg_next])
    refine ⟨v2, h3, fun Post hK => ?_⟩
    unfold vr_findLeads_23
    rw [show (jm_u r 38 v) 1 0 = nI M from r1, nI_1]
    exact ⟨fun q => absurd q (nI_ge (by omega) (by omega)), fun _ => ⟨M + 1, h2 _ _ (h4 Post hK)⟩⟩
theorem lf_of {M T N : Nat} {r : jm_M} (ho : rg_ok M T N r) : ∃ v, rg_v r M N M 0 v ∧ ∀ Post : jm_M → Prop, Post (jm_u r 38 v) → vr_findLeads r Post := by
  obtain ⟨v1, h1, h2⟩ := lf2 (r := r) 36 0 (r 38) (by omega) (fun j hj => absurd hj (Nat.not_lt_zero j))
  obtain ⟨v2, h3, h4⟩ := lf23 ho M 0 v1 (by omega) (fun a b ha hb => by
    rw [h1 _ (by omega)]
    exact ⟨fun w => absurd rfl w, fun ⟨_, m, q, w, _⟩ => by omega⟩)
  refine ⟨v2, h3, fun Post hK => ⟨37, ?_⟩⟩
  have := h2 (fun (g3 : jm_M) => ∃ n12 : Nat, vr_findLeads_23 Post n12 0 g3) Post ⟨M + 1, h4 Post hK⟩
  rw [jm_u0] at this
  exact this
def rg_u (r : jm_M) (M N i j : Nat) (u : Nat → Int32) : Prop := ∀ a, a < 6 → ∃ y, y < 2 ^ 6 ∧ u a = nI y ∧ ∀ b, b < 6 → (y.testBit b = true ↔ rg_d r M N i j a b)
theorem cfill {gd : cm_D} {gj : cm_J} {c : jm_M} {kk : Nat} (Post : cm_M → Prop) (hK : ∀ v : Nat → Int32, (∀ j, j < 6 → v j = 0) → Post (gd, gj, jm_u c kk v)) : ∀ d i (v : Nat → Int32), i + d = 6 → (∀ j, j < i → v j = 0) → vc_J7_fill_53178_5 kk 0 (Int32.ofNat 6) Post (d + 1) (nI i) (gd, gj, jm_u c kk v)
  | 0, i, v, hi, hv => by
    obtain rfl : i = 6 := by omega
    unfold vc_J7_fill_53178_5
    exact ⟨fun _ => hK v hv, fun q => absurd (show Int32.ofNat 6 ≤ nI 6 by decide) q⟩
  | d + 1, i, v, hi, hv => by
    have ti : (nI i).toNatClampNeg = i := tn_nI (by omega)
    unfold vc_J7_fill_53178_5
    refine ⟨fun q => absurd q (nI_ge (b := 6) (by omega) (by omega)), fun _ => ⟨vp_in_nI (by omega) (by omega), nm_e ?_⟩⟩
    have e : cm_a (gd, gj, jm_u c kk v) kk (nI i) 0 = (gd, gj, jm_u c kk (upd v i 0)) := by
      show (gd, gj, jm_a (jm_u c kk v) kk (nI i) 0) = _
      rw [jm_as _ _ _ (by omega), jm_uk, jm_uu]
    rw [e, nI_1]
    refine cfill Post hK d (i + 1) _ (by omega) (fun j hj => ?_)
    by_cases q : j = i
    · rw [q, pk_us]
    · rw [pk_un q]; exact hv j (by omega)
theorem cfill_of {gd : cm_D} {gj : cm_J} {c : jm_M} (kk : Nat) (Post : cm_M → Prop) (hK : ∀ v : Nat → Int32, (∀ j, j < 6 → v j = 0) → Post (gd, gj, jm_u c kk v)) : vc_J7_fill_53178 kk 0 (gd, gj, c) Post := by
  refine nm_e ⟨7, ?_⟩
  have := cfill (gd := gd) (gj := gj) (c := c) (kk := kk) Post hK 6 0 (c kk) (by omega) (fun j hj => absurd hj (Nat.not_lt_zero j))
  rw [jm_u0] at this
  exact this
/-- what the class has of it -/
def rg_c (M N : Nat) (c r : jm_M) : Prop := c 12 0 = nI M ∧ (∀ i, i < 10 → c 27 i = r 30 i) ∧ ∀ p, p < 420 → c 11 p = nI (b_cnt (r 6) (r 7) (r 8) (r 9) p N) ∧ b_cnt (r 6) (r 7) (r 8) (r 9) p N < 2 ^ 31
theorem rc21 {M T N i : Nat} {gd : cm_D} {gj : cm_J} {c r : jm_M} (ho : rg_ok M T N r) (hc : rg_c M N c r) (hi : i < M) (K Post : cm_M → Prop) (hK : ∀ u, rg_u r M N i M u → K (gd, gj, jm_u c 54 u)) : ∀ d j (u : Nat → Int32), j + d = M → rg_u r M N i j u → vc_X8_readCalls_21 (nI i) K Post (d + 1) (nI j) (gd, gj, jm_u c 54 u)
  | 0, j, u, hj, hu => by
    obtain rfl : j = M := by omega
    obtain ⟨hM, hT16, hN, hX, r1, r5, h30⟩ := ho
    unfold vc_X8_readCalls_21
    rw [show ((gd, gj, jm_u c 54 u) : cm_M).2.2 12 0 = nI j from hc.1]
    exact ⟨fun _ => hK u hu, fun q => absurd (nI_le (Nat.le_refl _) (by omega)) q⟩
  | d + 1, j, u, hj, hu => by
    obtain ⟨hM, hT16, hN, hX, r1, r5, h30⟩ := id ho
    have hjM : j < M := by omega
    have ti : (nI i).toNatClampNeg = i := tn_nI (by omega)
    have tj : (nI j).toNatClampNeg = j := tn_nI (by omega)
    obtain ⟨a6, ea⟩ := h30 i (by omega)
    obtain ⟨b6, eb⟩ := h30 j (by omega)
    obtain ⟨a, ha⟩ : ∃ a, a = q_v (r 30 i) := ⟨_, rfl⟩
    obtain ⟨b, hb⟩ : ∃ b, b = q_v (r 30 j) := ⟨_, rfl⟩
    have st := rg_step (r := r) (M := M) (N := N) hi hjM
    rw [← ha, ← hb] at st
    rw [← ha] at a6 ea
    rw [← hb] at b6 eb
    have fa : ((gd, gj, jm_u c 54 u) : cm_M).2.2 27 i = nI a := by show c 27 i = _; rw [hc.2.1 i (by omega)]; exact ea
    have fb : ((gd, gj, jm_u c 54 u) : cm_M).2.2 27 j = nI b := by show c 27 j = _; rw [hc.2.1 j (by omega)]; exact eb
    have ix : nI i * 10 + nI j = nI (10 * i + j) := ij' (k := 10) (by omega)
    have tx : (nI (10 * i + j)).toNatClampNeg = 10 * i + j := tn_nI (by omega)
    have ta : (nI a).toNatClampNeg = a := tn_nI (by omega)
    obtain ⟨ct, ct2⟩ := hc.2.2 (10 * i + j) (by omega)
    have f11 : ((gd, gj, jm_u c 54 u) : cm_M).2.2 11 (10 * i + j) = nI (b_cnt (r 6) (r 7) (r 8) (r 9) (10 * i + j) N) := ct
    have e0 : nI (b_cnt (r 6) (r 7) (r 8) (r 9) (10 * i + j) N) ≤ 0 ↔ b_cnt (r 6) (r 7) (r 8) (r 9) (10 * i + j) N ≤ 0 := nI_leI (b := 0) ct2 (by omega)
    unfold vc_X8_readCalls_21
    rw [show ((gd, gj, jm_u c 54 u) : cm_M).2.2 12 0 = nI M from hc.1]
    refine ⟨fun q => absurd q (nI_ge (by omega) (by omega)), fun _ => ⟨fun q => absurd rfl q, fun _ => ?_⟩⟩
    rw [ix]
    refine ⟨vp_in_nI (by omega) (by omega), ?_⟩
    rw [tx, f11, e0, ti, tj, fa, fb, nI_1]
    refine ⟨fun w => ?_, fun w => ⟨vp_in_nI (by omega) (by omega), vp_in_nI (by omega) (by omega), vp_in_nI (by omega) (by omega), vp_in_nI (by omega) (by omega), nm_e ?_⟩⟩
    · refine rc21 ho hc hi K Post hK d (j + 1) u (by omega) (fun x hx => ?_)
      obtain ⟨y, y1, y2, y3⟩ := hu x hx
      refine ⟨y, y1, y2, fun z hz => ?_⟩
      rw [y3 z hz, st]
      exact ⟨fun u => Or.inl u, fun u => by rcases u with u | ⟨u1, u2, u3⟩; exact u; exact absurd (by omega) u3⟩
    · obtain ⟨y, y1, y2, y3⟩ := hu a a6
      have e : cm_a (gd, gj, jm_u c 54 u) 54 (nI a) (((gd, gj, jm_u c 54 u) : cm_M).2.2 54 (nI a).toNatClampNeg ||| (1 : Int32) <<< (nI b &&& 31)) = (gd, gj, jm_u c 54 (upd u a (nI (y ||| 2 ^ b)))) := by
        show (gd, gj, jm_a (jm_u c 54 u) 54 (nI a) (u (nI a).toNatClampNeg ||| (1 : Int32) <<< (nI b &&& 31))) = _
        rw [jm_as _ _ _ (by omega), jm_uk, jm_uu, ta, y2, nI_shl1 (by omega), nI_or]
      rw [e]
      refine rc21 ho hc hi K Post hK d (j + 1) _ (by omega) (fun x hx => ?_)
      by_cases q : x = a
      · subst q
        refine ⟨y ||| 2 ^ b, or_lt y1 (Nat.pow_lt_pow_right (by omega) b6), pk_us, fun z hz => ?_⟩
        rw [tb_or1, Bool.or_eq_true, decide_eq_true_eq, y3 z hz, st]
        exact ⟨fun u => by rcases u with u | u; exact Or.inl u; exact Or.inr ⟨rfl, u, by omega⟩, fun u => by rcases u with u | ⟨u1, u2, u3⟩; exact Or.inl u; exact Or.inr u2⟩
      · obtain ⟨y', y1', y2', y3'⟩ := hu x hx
        refine ⟨y', y1', by rw [pk_un q]; exact y2', fun z hz => ?_⟩
        rw [y3' z hz, st]
        exact ⟨fun u => Or.inl u, fun u => by rcases u with u | ⟨u1, u2, u3⟩; exact u; exact absurd u1.symm q⟩
theorem rc10 {M T N : Nat} {gd : cm_D} {gj : cm_J} {c r : jm_M} (ho : rg_ok M T N r) (hc : rg_c M N c r) (Post : cm_M → Prop) (hK : ∀ u, rg_u r M N M 0 u → Post (gd, gj, jm_u c 54 u)) : ∀ d i (u : Nat → Int32), i + d = M → rg_u r M N i 0 u → vc_X8_readCalls_10 Post (d + 1) (nI i) (gd, gj, jm_u c 54 u)
  | 0, i, u, hi, hu => by
    obtain rfl : i = M := by omega
    obtain ⟨hM, hT16, hN, hX, r1, r5, h30⟩ := ho
    unfold vc_X8_readCalls_10
    rw [show ((gd, gj, jm_u c 54 u) : cm_M).2.2 12 0 = nI i from hc.1]
    exact ⟨fun _ => hK u hu, fun q => absurd (nI_le (Nat.le_refl _) (by omega)) q⟩
  | d + 1, i, u, hi, hu => by
    obtain ⟨hM, hT16, hN, hX, r1, r5, h30⟩ := id ho
    unfold vc_X8_readCalls_10
    rw [show ((gd, gj, jm_u c 54 u) : cm_M).2.2 12 0 = nI M from hc.1, nI_1]
    refine ⟨fun q => absurd q (nI_ge (by omega) (by omega)), fun _ => ⟨M + 1, rc21 ho hc (by omega) _ _ (fun u' hu' => ?_) M 0 u (by omega) hu⟩⟩
    refine rc10 ho hc Post hK d (i + 1) u' (by omega) (fun x hx => ?_)
    obtain ⟨y, y1, y2, y3⟩ := hu' x hx
    exact ⟨y, y1, y2, fun z hz => by rw [y3 z hz, rg_next]⟩
theorem rc_of {M T N : Nat} {gd : cm_D} {gj : cm_J} {c r : jm_M} (ho : rg_ok M T N r) (hc : rg_c M N c r) (Post : cm_M → Prop) (hK : ∀ u, rg_u r M N M 0 u → Post (gd, gj, jm_u c 54 u)) : vc_X8_readCalls (gd, gj, c) Post := by
  refine cfill_of 54 _ (fun v hv => ⟨M + 1, rc10 ho hc Post hK M 0 v (by omega) (fun a ha => ⟨0, by decide, hv a ha, fun b hb => ?_⟩)⟩)
  rw [Nat.zero_testBit]
  exact ⟨fun w => absurd w (by decide), fun ⟨m, q, w, _⟩ => by omega⟩
