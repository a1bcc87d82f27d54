/-! a cell behind a mask; whether an order breaks a law -/
theorem va_step {c : jm_M} {kk z i come cell : Nat} {ce : Nat → Nat} (h64 : ∀ x, x < z → c 64 x = nI (ce x) ∧ ce x < 128) (hcl : o_cl z ce come) (hi : i < z) (hcn : o_cn ce i come) (hcell : cell < 128) : b_va c kk cell (come ||| 2 ^ i) z = if cell = ce i then c 65 i else b_va c kk cell come z := by
  by_cases e : cell = ce i
  · rw [if_pos e]
    have key : ∀ n, i < n → n ≤ z → b_va c kk cell (come ||| 2 ^ i) n = c 65 i := by
      intro n
      induction n with
      | zero => intro h; exact absurd h (Nat.not_lt_zero i)
      | succ k ih =>
        intro h1 h2
        show (if c 64 k = nI cell ∧ (come ||| 2 ^ i).testBit k = true then c 65 k else b_va c kk cell (come ||| 2 ^ i) k) = _
        by_cases q : k = i
        · rw [q, if_pos ⟨by rw [e]; exact (h64 i hi).1, by rw [tb_or1]; simp⟩]
        · rw [if_neg (fun w => ?_)]
          · exact ih (by omega) (by omega)
          · obtain ⟨w1, w2⟩ := w
            rw [tb_or1, Bool.or_eq_true, decide_eq_true_eq] at w2
            have w3 : come.testBit k = true := by rcases w2 with w2 | w2; exact w2; exact absurd w2.symm q
            obtain ⟨a1, a2⟩ := h64 k (by omega)
            have ek : ce k = cell := (nI_eq (by omega) (by omega)).mp (a1.symm.trans w1)
            have := hcl.2 k (by omega) w3 i (by omega) (by rw [ek, e])
            rw [hcn.1] at this
            exact absurd this (by decide)
    exact key z hi (Nat.le_refl z)
  · rw [if_neg e]
    have key : ∀ n, n ≤ z → b_va c kk cell (come ||| 2 ^ i) n = b_va c kk cell come n := by
      intro n
      induction n with
      | zero => intro _; rfl
      | succ k ih =>
        intro h2
        show (if c 64 k = nI cell ∧ (come ||| 2 ^ i).testBit k = true then c 65 k else b_va c kk cell (come ||| 2 ^ i) k) = (if c 64 k = nI cell ∧ come.testBit k = true then c 65 k else b_va c kk cell come k)
        rw [ih (by omega)]
        by_cases q : k = i
        · obtain ⟨a1, a2⟩ := h64 i hi
          have no : ¬ c 64 k = nI cell := fun w => e (by rw [q, a1] at w; exact ((nI_eq (by omega) (by omega)).mp w).symm)
          rw [if_neg (fun w => no w.1), if_neg (fun w => no w.1)]
        · have : (come ||| 2 ^ i).testBit k = come.testBit k := by
            rw [tb_or1, decide_eq_false (fun w => q w.symm), Bool.or_false]
          rw [this]
    exact key z (Nat.le_refl z)
theorem mk_cl {z : Nat} {ce o : Nat → Nat} (ho : ∀ j, j < z → o j < z) (hc : ∀ j, j < z → o_cn ce (o j) (o_mk o j)) : ∀ n, n ≤ z → o_cl z ce (o_mk o n)
  | 0, _ => cl_0 z ce
  | n + 1, h => cl_or (mk_cl ho hc n (by omega)) (ho n (by omega)) (hc n (by omega))
theorem br2 {J : jm_M} {x1 : Int32} : ∀ d i (w : Nat → Int32), i + d = 128 → (∀ j, j < i → w j = J 12 j) → ∃ w' : Nat → Int32, (∀ j, j < 128 → w' j = J 12 j) ∧ ∀ K Post, K (jm_u J 13 w') → vr_breaks_2 x1 K Post (d + 1) (nI i) (jm_u J 13 w)
  | 0, i, w, hi, hw => by
    obtain rfl : i = 128 := by omega
    refine ⟨w, hw, fun K Post hK => ?_⟩
    unfold vr_breaks_2
    exact ⟨fun _ => hK, fun q => absurd (by decide) q⟩
  | d + 1, i, w, hi, hw => by
    obtain ⟨w', h1, h2⟩ := br2 (J := J) (x1 := x1) d (i + 1) (upd w i (J 12 i)) (by omega) (fun j hj => by
      by_cases e : j = i
      · rw [e, pk_us]
      · rw [pk_un e]; exact hw j (by omega))
    refine ⟨w', h1, fun K Post hK => ?_⟩
    unfold vr_breaks_2
    refine ⟨fun q => absurd q (nI_ge (b := 128) (by omega) (by omega)), fun _ => ⟨vp_in_nI (by omega) (by omega), vp_in_nI (by omega) (by omega), nm_e ?_⟩⟩
    rw [tn_nI (by omega), jm_as _ _ _ (by omega), jm_uk, jm_uu, jm_un _ _ (show (12 : Nat) ≠ 13 by decide), nI_1]
    exact h2 K Post hK
/-- law l in both -/
def o_law (l t : Nat) (c r : jm_M) : Prop := l < 10 ∧ t ≤ 6 ∧ r 48 l = nI t ∧ (∀ j, j < t → ∃ k : Nat, k < 128 ∧ r 49 (6 * l + j) = nI k) ∧ c 58 = r 50 ∧ c 57 = r 49 ∧ c 56 = r 47
theorem st_is {c r : jm_M} {l t z come : Nat} (hl : o_law l t c r) {w : Nat → Int32} (hw : ∀ cell, cell < 128 → w cell = b_va c 26 cell come z) : (b_st (fun j => r 50 (6 * l + j)) (fun j => w (r 49 (6 * l + j)).toNatClampNeg) t (r 47 l) = 0 ↔ ¬ o_st c l t z come) := by
  obtain ⟨l1, l2, l3, l4, l5, l6, l7⟩ := hl
  unfold o_st
  have e : b_st (fun j => c 58 (6 * l + j)) (fun j => b_va c 26 (c 57 (6 * l + j)).toNatClampNeg come z) t (c 56 l) = b_st (fun j => r 50 (6 * l + j)) (fun j => w (r 49 (6 * l + j)).toNatClampNeg) t (r 47 l) := by
    rw [l5, l6, l7]
    unfold b_st
    rw [b_sm_ext t (fun i _ => rfl) (fun i hi => by
      obtain ⟨k, hk, ek⟩ := l4 i hi
      show b_va c 26 (r 49 (6 * l + i)).toNatClampNeg come z = w (r 49 (6 * l + i)).toNatClampNeg
      rw [ek, tn_nI (by omega)]; exact (hw k hk).symm)]
  rw [e]
  exact ⟨fun q u => u q, fun q => Classical.not_not.mp q⟩
theorem br43 {c J r0 : jm_M} {l t z : Nat} {nu ce o : Nat → Nat} (hl : o_law l t c r0) (hR : o_R z nu ce r0) (h64 : ∀ x, x < z → c 64 x = nI (ce x) ∧ ce x < 128) (h65 : ∀ x, x < z → c 65 x = r0 42 (nu x)) (hJ : ∀ k, k ≠ 13 → (k < 53 ∨ 56 < k) → J k = r0 k) (ho : ∀ j, j < z → o j < z ∧ J 53 j = nI (o j)) (hc : ∀ j, j < z → o_cn ce (o j) (o_mk o j)) : ∀ d j (w : Nat → Int32), j + d = z → (∀ cell, cell < 128 → w cell = b_va c 26 cell (o_mk o j) z) → (∀ i, i ≤ j → o_st c l t z (o_mk o i)) → ∃ (x : Int32) (w' : Nat → Int32), (x = 0 ∨ x = 1) ∧ (x = 0 ↔ ∀ i, i ≤ z → o_st c l t z (o_mk o i)) ∧ ∀ Post : Int32 → jm_M → Prop, Post x (jm_u J 13 w') → vr_breaks_43 (nI l) Post (d + 1) (nI j) (jm_u J 13 w)
  | 0, j, w, hj, hw, hs => by
    obtain rfl : j = z := by omega
    obtain ⟨hz, e51, hrow⟩ := id hR
    refine ⟨0, w, Or.inl rfl, ⟨fun _ => hs, fun _ => rfl⟩, fun Post hP => ?_⟩
    unfold vr_breaks_43
    rw [show (jm_u J 13 w) 51 0 = nI j from by rw [jm_un _ _ (by decide), hJ 51 (by decide) (by decide)]; exact e51]
    exact ⟨fun _ => hP, fun q => absurd (nI_le (Nat.le_refl _) (by omega)) q⟩
  | d + 1, j, w, hj, hw, hs => by
    obtain ⟨hz, e51, hrow⟩ := id hR
    obtain ⟨l1, l2, l3, l4, l5, l6, l7⟩ := id hl
    obtain ⟨o1, o2⟩ := ho j (by omega)
    obtain ⟨a1, a2, a3, a4⟩ := hrow (o j) o1
    have gk : ∀ (w : Nat → Int32) k, k ≠ 13 → (k < 53 ∨ 56 < k) → (jm_u J 13 w) k = r0 k := fun w k h1 h2 => by rw [jm_un _ _ h1]; exact hJ k h1 h2
    have f51 : (jm_u J 13 w) 51 0 = nI z := by rw [gk w 51 (by decide) (by decide)]; exact e51
    have f53 : (jm_u J 13 w) 53 j = nI (o j) := by rw [jm_un _ _ (by decide)]; exact o2
    have f52 : (jm_u J 13 w) 52 (o j) = nI (nu (o j)) := by rw [gk w 52 (by decide) (by decide)]; exact a1
    have f41 : (jm_u J 13 w) 41 (nu (o j)) = nI (ce (o j)) := by rw [gk w 41 (by decide) (by decide)]; exact a3
    have f42 : (jm_u J 13 w) 42 (nu (o j)) = r0 42 (nu (o j)) := by rw [gk w 42 (by decide) (by decide)]
    obtain ⟨w2, hw2⟩ : ∃ w2, w2 = upd w (ce (o j)) (r0 42 (nu (o j))) := ⟨_, rfl⟩
    have hv2 : ∀ cell, cell < 128 → w2 cell = b_va c 26 cell (o_mk o (j + 1)) z := fun cell hcell => by
      show _ = b_va c 26 cell (o_mk o j ||| 2 ^ o j) z
      rw [va_step h64 (mk_cl (fun j hj => (ho j hj).1) hc j (by omega)) o1 (hc j (by omega)) hcell, hw2]
      by_cases e : cell = ce (o j)
      · rw [if_pos e, e, pk_us, h65 (o j) o1]
      · rw [if_neg e, pk_un e]; exact hw cell hcell
    have g8 : jm_a (jm_u J 13 w) 13 (nI (ce (o j))) (r0 42 (nu (o j))) = jm_u J 13 w2 := by rw [jm_as _ _ _ (by omega), jm_uk, jm_uu, hw2]
    have sti := st_is hl hv2
    have enter : ∀ Post : Int32 → jm_M → Prop, ((¬ b_st (fun i => r0 50 (6 * l + i)) (fun i => w2 (r0 49 (6 * l + i)).toNatClampNeg) t (r0 47 l) = 0) → vr_breaks_43 (nI l) Post (d + 1) (nI (j + 1)) (jm_u J 13 w2)) → (b_st (fun i => r0 50 (6 * l + i)) (fun i => w2 (r0 49 (6 * l + i)).toNatClampNeg) t (r0 47 l) = 0 → Post 1 (jm_u J 13 w2)) → vr_breaks_43 (nI l) Post (d + 1 + 1) (nI j) (jm_u J 13 w) := by
      intro Post h1 h0
      unfold vr_breaks_43
      rw [f51, tn_nI (by omega), f53, tn_nI (by omega), f52]
      refine ⟨fun q => absurd q (nI_ge (by omega) (by omega)), fun _ => ⟨vp_in_nI (by omega) (by omega), vp_in_nI (by omega) (by omega), nm_e ⟨vp_in_nI (by omega) (by omega), vp_in_nI (by omega) (by omega), ?_⟩⟩⟩
      rw [tn_nI (by omega), f41, f42, g8]
      refine ⟨vp_in_nI (by omega) (by omega), nm_e (dh_of (g := jm_u J 13 w2) (kk := 13) l1 l2 (by rw [gk w2 48 (by decide) (by decide)]; exact l3) (by rw [gk w2 49 (by decide) (by decide)]; exact l4) _ ?_)⟩
      rw [gk w2 50 (by decide) (by decide), gk w2 49 (by decide) (by decide), gk w2 47 (by decide) (by decide), jm_uk, nI_1]
      exact ⟨h1, h0⟩
    by_cases hv : b_st (fun i => r0 50 (6 * l + i)) (fun i => w2 (r0 49 (6 * l + i)).toNatClampNeg) t (r0 47 l) = 0
    · exact ⟨1, w2, Or.inr rfl, ⟨fun e => absurd e (by decide), fun e => absurd (e (j + 1) (by omega)) (sti.mp hv)⟩, fun Post hP => enter Post (fun q => absurd hv q) (fun _ => hP)⟩
    · obtain ⟨x, w', x1, x2, x3⟩ := br43 hl hR h64 h65 hJ ho hc d (j + 1) w2 (by omega) hv2 (fun i hi => by
        by_cases e : i = j + 1
        · rw [e]
          rcases Classical.em (o_st c l t z (o_mk o (j + 1))) with u | u
          · exact u
          · exact absurd (sti.mpr u) hv
        · exact hs i (by omega))
      exact ⟨x, w', x1, x2, fun Post hP => enter Post (fun _ => x3 Post hP) (fun q => absurd q hv)⟩
theorem br_of {c r0 : jm_M} {l t z : Nat} {nu ce : Nat → Nat} (hl : o_law l t c r0) (hR : o_R z nu ce r0) (h64 : ∀ x, x < z → c 64 x = nI (ce x) ∧ ce x < 128) (h65 : ∀ x, x < z → c 65 x = r0 42 (nu x)) (h26 : ∀ i, i < 128 → c 26 i = r0 12 i) : o_br z ce (o_st c l t z) (nI l) r0 := by
  obtain ⟨l1, l2, l3, l4, l5, l6, l7⟩ := id hl
  refine Or.inr ⟨nI_pos (by omega), fun o J hJ ho hc => ?_⟩
  obtain ⟨w, h1, h2⟩ := br2 (J := J) (x1 := nI l) 128 0 (J 13) (by omega) (fun j hj => absurd hj (Nat.not_lt_zero j))
  rw [jm_u0] at h2
  have gk : ∀ (w : Nat → Int32) k, k ≠ 13 → (k < 53 ∨ 56 < k) → (jm_u J 13 w) k = r0 k := fun w k h1 h2 => by rw [jm_un _ _ h1]; exact hJ k h1 h2
  have hv : ∀ cell, cell < 128 → w cell = b_va c 26 cell (o_mk o 0) z := fun cell hcell => by
    show _ = b_va c 26 cell 0 z
    rw [b_va_0, h1 cell hcell, hJ 12 (by decide) (by decide)]; exact (h26 cell hcell).symm
  have sti := st_is hl hv
  have enter : ∀ Post : Int32 → jm_M → Prop, ((¬ b_st (fun i => r0 50 (6 * l + i)) (fun i => w (r0 49 (6 * l + i)).toNatClampNeg) t (r0 47 l) = 0) → ∃ n11 : Nat, vr_breaks_43 (nI l) Post n11 0 (jm_u J 13 w)) → (b_st (fun i => r0 50 (6 * l + i)) (fun i => w (r0 49 (6 * l + i)).toNatClampNeg) t (r0 47 l) = 0 → Post 1 (jm_u J 13 w)) → vr_breaks (nI l) J Post := by
    intro Post q1 q0
    refine ⟨129, h2 _ Post (dh_of (g := jm_u J 13 w) (kk := 13) l1 l2 (by rw [gk w 48 (by decide) (by decide)]; exact l3) (by rw [gk w 49 (by decide) (by decide)]; exact l4) _ ?_)⟩
    rw [gk w 50 (by decide) (by decide), gk w 49 (by decide) (by decide), gk w 47 (by decide) (by decide), jm_uk]
    exact ⟨q1, q0⟩
  by_cases hb : b_st (fun i => r0 50 (6 * l + i)) (fun i => w (r0 49 (6 * l + i)).toNatClampNeg) t (r0 47 l) = 0
  · exact ⟨1, w, Or.inr rfl, ⟨fun e => absurd e (by decide), fun e => absurd (e 0 (Nat.zero_le _)) (sti.mp hb)⟩, fun Post hP => enter Post (fun q => absurd hb q) (fun _ => hP)⟩
  · obtain ⟨x, w', x1, x2, x3⟩ := br43 hl hR h64 h65 hJ ho hc z 0 w (by omega) hv (fun i hi => by
      obtain rfl : i = 0 := by omega
      rcases Classical.em (o_st c l t z (o_mk o 0)) with u | u
      · exact u
      · exact absurd (sti.mpr u) hb)
    exact ⟨x, w', x1, x2, fun Post hP => enter Post (fun _ => ⟨z + 1, x3 Post hP⟩) (fun q => absurd q hb)⟩
theorem shuf_of {S : Nat} {r : jm_M} {x1 : Int32} {nu ce : Nat → Nat} {st : Nat → Prop} {z : Nat} (hzz : z = (b_wl (r 45) S).length) (hz : z ≤ 6) (hS : S ≤ 2000) (e40 : r 40 0 = nI S) (h45 : ∀ l, l < S → r 45 l = 0 ∨ r 45 l = 1) (hnu : ∀ j, j < z → nu j = (b_wl (r 45) S).getD j 0) (hrow : ∀ j, j < z → nu j < 2000 ∧ r 41 (nu j) = nI (ce j) ∧ ce j < 128) (hbr : ∀ J : jm_M, (∀ k, (k < 51 ∨ 52 < k) → J k = r k) → o_R z nu ce J → o_br z ce st x1 J) (P : jm_M → Prop) (hP : ∀ J' : jm_M, (∀ k, k ≠ 13 → (k < 51 ∨ 56 < k) → J' k = r k) → J' 51 0 = nI z → J' 55 0 = nI (oX z ce (fun _ => True) z 0) → J' 56 0 = nI (oB z ce st z 0 True) → (oB z ce st z 0 True ≠ 0 → ∀ j, j < z → J' 54 j = nI (nu (o_gp z ce st z 0 True j))) → P J') : vr_shuffle x1 r P := by
  refine nm_e ⟨S + 1, ?_⟩
  subst hzz
  refine fw_loop (r := r) hS e40 h45 hz _ (fun J hJ h51 h52 => ?_) S 0 _ (by omega) (fun k hk => js_un _ _ (by omega)) (by rw [js_k]; rfl) (fun j hj => absurd hj (Nat.not_lt_zero j))
  obtain ⟨z, hzz⟩ : ∃ z, z = (b_wl (r 45) S).length := ⟨_, rfl⟩
  rw [← hzz] at hz hnu hrow hbr hP h51 h52
  have hR : o_R z nu ce J := ⟨hz, h51, fun i hi => by
    obtain ⟨a1, a2, a3⟩ := hrow i hi
    rw [h52 i hi, hJ 41 (by decide), hnu i hi]
    rw [hnu i hi] at a1 a2
    exact ⟨rfl, a1, a2, a3⟩⟩
  refine nm_e (nm_e (nm_e ?_))
  obtain ⟨J1, hJ1⟩ : ∃ J1, J1 = jm_a (jm_s (jm_s J 55 0) 56 0) 53 0 (-1) := ⟨_, rfl⟩
  rw [← hJ1]
  have hJ1' : J1 = jm_u (jm_s (jm_s J 55 0) 56 0) 53 (upd (J 53) 0 (-1)) := hJ1
  have hlt : 0 + oB z ce st z (o_mk (fun _ => 0) 0) True < 2 ^ 31 := by
    have h1 := oB_all z ce st z 0 True
    have h2 := oX_le z hz ce (fun _ => True) z 0
    have h3 : 6 ^ z ≤ 6 ^ 6 := Nat.pow_le_pow_right (by omega) hz
    show 0 + oB z ce st z 0 True < 2 ^ 31
    omega
  obtain ⟨J', N, p1, p2, p3, p4⟩ := o_all (st := st) (x1 := x1) hR (hbr J hJ hR) z 0 (fun _ => 0) J1 0 0 True (fun j => o_gp z ce st z 0 True j) (by omega) (fun j hj => absurd hj (Nat.not_lt_zero j)) (fun j hj => absurd hj (Nat.not_lt_zero j)) ⟨fun _ j hj => absurd hj (Nat.not_lt_zero j), fun _ => trivial⟩ ⟨fun k h1 h2 => by rw [hJ1', jm_un _ _ (by omega), js_un _ _ (by omega), js_un _ _ (by omega)], by rw [hJ1', jm_un _ _ (by decide), js_un _ _ (by decide), js_k]; rfl, by rw [hJ1', jm_un _ _ (by decide), js_k]; rfl⟩ hlt (fun _ => by rw [hJ1', jm_uk, pk_us]; decide) (fun j => by rw [if_neg (Nat.not_lt_zero j), Nat.sub_zero]; rfl)
  refine ⟨1 + N, p4 1 P ?_⟩
  unfold vr_shuffle_23
  refine ⟨fun _ => hP J' (fun k h1 h2 => ?_) ?_ ?_ ?_ (fun w j hj => ?_), fun q => absurd (by decide) q⟩
  · rw [p1.1 k h1 (by omega)]; exact hJ k (by omega)
  · rw [p1.1 51 (by decide) (by decide)]; exact h51
  · rw [p1.2.1, Nat.zero_add]; rfl
  · rw [p1.2.2, Nat.zero_add]; rfl
  · exact p3.2 rfl w j hj
