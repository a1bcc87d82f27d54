theorem a46 (gd : cm_D) (gj : cm_J) (c : jm_M) (u v : Nat → Int32) {m : Nat} (hm : m < 9) (x : Int32) : cm_a (gd, gj, jm_u (jm_u c 46 u) 47 v) 46 (nI m) x = (gd, gj, jm_u (jm_u c 46 (upd u m x)) 47 v) := by
  show (gd, gj, jm_a (jm_u (jm_u c 46 u) 47 v) 46 (nI m) x) = _
  rw [jm_as _ _ _ (by omega), jm_un _ _ (show (46 : Nat) ≠ 47 by decide), jm_uk, jm_uc _ _ _ (show (47 : Nat) ≠ 46 by decide), jm_uu]
theorem a47 (gd : cm_D) (gj : cm_J) (c : jm_M) (u v : Nat → Int32) {m : Nat} (hm : m < 9) (x : Int32) : cm_a (gd, gj, jm_u (jm_u c 46 u) 47 v) 47 (nI m) x = (gd, gj, jm_u (jm_u c 46 u) 47 (upd v m x)) := by
  show (gd, gj, jm_a (jm_u (jm_u c 46 u) 47 v) 47 (nI m) x) = _
  rw [jm_as _ _ _ (by omega), jm_uk, jm_uu]
def k_m (f : Nat → Int32) (m j : Nat) (val : Int32) (t : Nat → Int32) : Prop := ∃ y, y < 2 ^ 9 ∧ f m = nI y ∧ ∀ k, y.testBit k = true ↔ k < j ∧ t (10 * m + k) = val
theorem km_next {f : Nat → Int32} {m j : Nat} {val : Int32} {t : Nat → Int32} (hj : j < 9) (h : k_m f m j val t) : ∃ x : Int32, (t (10 * m + j) ≠ val → f m ||| 0 = x) ∧ (t (10 * m + j) = val → f m ||| ((1 : Int32) <<< (nI j &&& 31)) = x) ∧ k_m (upd f m x) m (j + 1) val t := by
  obtain ⟨y, y1, y2, y3⟩ := h
  by_cases q : t (10 * m + j) = val
  · refine ⟨nI (y ||| 2 ^ j), fun w => absurd q w, fun _ => by rw [y2, nI_shl1 (by omega), nI_or], y ||| 2 ^ j, or_lt y1 (Nat.pow_lt_pow_right (by omega) hj), pk_us, fun k => ?_⟩
    rw [tb_or1, Bool.or_eq_true, decide_eq_true_eq, y3 k]
    refine ⟨fun w => ?_, fun w => ?_⟩
    · rcases w with w | w
      · exact ⟨by omega, w.2⟩
      · subst w; exact ⟨by omega, q⟩
    · by_cases e : k = j
      · exact Or.inr e.symm
      · exact Or.inl ⟨by omega, w.2⟩
  · refine ⟨nI y, fun _ => by rw [y2, or_0], fun w => absurd w q, y, y1, pk_us, fun k => ?_⟩
    rw [y3 k]
    refine ⟨fun w => ⟨by omega, w.2⟩, fun w => ⟨?_, w.2⟩⟩
    have : k ≠ j := fun e => q (by rw [← e]; exact w.2)
    omega
theorem rt35 {gd : cm_D} {gj : cm_J} {c : jm_M} {m : Nat} (hm : m < 9) {u0 v0 : Nat → Int32} (K Post : cm_M → Prop) (hK : ∀ u v : Nat → Int32, (∀ x, x ≠ m → u x = u0 x) → (∀ x, x ≠ m → v x = v0 x) → k_m u m m 1 (c 3) → k_m v m m 2 (c 3) → K (gd, gj, jm_u (jm_u c 46 u) 47 v)) : ∀ d j (u v : Nat → Int32), j + d = m → (∀ x, x ≠ m → u x = u0 x) → (∀ x, x ≠ m → v x = v0 x) → k_m u m j 1 (c 3) → k_m v m j 2 (c 3) → vc_X2_readTold_35 (nI m) K Post (d + 1) (nI j) (gd, gj, jm_u (jm_u c 46 u) 47 v)
  | 0, j, u, v, hj, h1, h2, h3, h4 => by
    obtain rfl : j = m := by omega
    unfold vc_X2_readTold_35
    exact ⟨fun _ => hK u v h1 h2 h3 h4, fun q => absurd (nI_le (Nat.le_refl _) (by omega)) q⟩
  | d + 1, j, u, v, hj, h1, h2, h3, h4 => by
    have ix : nI m * 10 + nI j = nI (10 * m + j) := ij' (k := 10) (by omega)
    have iv : vp_in (nI m) 9 := vp_in_nI hm (by omega)
    have f3 : ((gd, gj, jm_u (jm_u c 46 u) 47 v) : cm_M).2.2 3 (10 * m + j) = c 3 (10 * m + j) := rfl
    have f46 : ((gd, gj, jm_u (jm_u c 46 u) 47 v) : cm_M).2.2 46 m = u m := rfl
    obtain ⟨xt, t1, t2, t3⟩ := km_next (show j < 9 by omega) h3
    obtain ⟨xa, a1, a2, a3⟩ := km_next (show j < 9 by omega) h4
    have fin : vc_X2_readTold_35 (nI m) K Post (d + 1) (nI (j + 1)) (gd, gj, jm_u (jm_u c 46 (upd u m xt)) 47 (upd v m xa)) := rt35 hm K Post hK d (j + 1) _ _ (by omega) (fun x hx => by rw [pk_un hx]; exact h1 x hx) (fun x hx => by rw [pk_un hx]; exact h2 x hx) t3 a3
    have f47 : ((gd, gj, jm_u (jm_u c 46 (upd u m xt)) 47 v) : cm_M).2.2 47 m = v m := rfl
    unfold vc_X2_readTold_35
    rw [ix, tn_nI (by omega), f3, tn_nI (by omega), f46, nI_1]
    refine ⟨fun q => absurd q (nI_ge (by omega) (by omega)), fun _ => ⟨vp_in_nI (by omega) (by omega), nm_e ⟨iv, fun q => ⟨iv, nm_e ?_⟩, fun q => ⟨iv, nm_e ?_⟩⟩⟩⟩
    · rw [t1 q, a46 _ _ _ _ _ hm, f47]
      refine ⟨iv, fun q2 => ⟨iv, nm_e ?_⟩, fun q2 => ⟨iv, nm_e ?_⟩⟩
      · rw [a1 q2, a47 _ _ _ _ _ hm]; exact fin
      · rw [a2 q2, a47 _ _ _ _ _ hm]; exact fin
    · rw [t2 q, a46 _ _ _ _ _ hm, f47]
      refine ⟨iv, fun q2 => ⟨iv, nm_e ?_⟩, fun q2 => ⟨iv, nm_e ?_⟩⟩
      · rw [a1 q2, a47 _ _ _ _ _ hm]; exact fin
      · rw [a2 q2, a47 _ _ _ _ _ hm]; exact fin
theorem rt2 {gd : cm_D} {gj : cm_J} {c : jm_M} {M : Nat} (hM : M ≤ 9) (c12 : c 12 0 = nI M) (Post : cm_M → Prop) (hK : ∀ u v : Nat → Int32, (∀ m, m < M → k_m u m m 1 (c 3) ∧ k_m v m m 2 (c 3)) → Post (gd, gj, jm_u (jm_u c 46 u) 47 v)) : ∀ d m (u v : Nat → Int32), m + d = M → (∀ x, x < m → k_m u x x 1 (c 3) ∧ k_m v x x 2 (c 3)) → vc_X2_readTold_2 Post (d + 1) (nI m) (gd, gj, jm_u (jm_u c 46 u) 47 v)
  | 0, m, u, v, hm, h => by
    obtain rfl : m = M := by omega
    unfold vc_X2_readTold_2
    rw [show ((gd, gj, jm_u (jm_u c 46 u) 47 v) : cm_M).2.2 12 0 = nI m from c12]
    exact ⟨fun _ => hK u v h, fun q => absurd (nI_le (Nat.le_refl _) (by omega)) q⟩
  | d + 1, m, u, v, hm, h => by
    have iv : vp_in (nI m) 9 := vp_in_nI (by omega) (by omega)
    unfold vc_X2_readTold_2
    rw [show ((gd, gj, jm_u (jm_u c 46 u) 47 v) : cm_M).2.2 12 0 = nI M from c12, a46 _ _ _ _ _ (by omega)]
    refine ⟨fun q => absurd q (nI_ge (by omega) (by omega)), fun _ => ⟨fun q => absurd q (nI_ge (b := 9) (by omega) (by omega)), fun _ => ⟨iv, nm_e ⟨iv, nm_e ?_⟩⟩⟩⟩
    rw [a47 _ _ _ _ _ (by omega), nI_1]
    refine ⟨m + 1, rt35 (by omega) _ Post (fun u' v' q1 q2 q3 q4 => ?_) m 0 _ _ (by omega) (fun x hx => rfl) (fun x hx => rfl) ⟨0, by decide, by rw [pk_us]; rfl, fun k => ?_⟩ ⟨0, by decide, by rw [pk_us]; rfl, fun k => ?_⟩⟩
    · refine rt2 hM c12 Post hK d (m + 1) u' v' (by omega) (fun x hx => ?_)
      by_cases e : x = m
      · rw [e]; exact ⟨q3, q4⟩
      · obtain ⟨⟨y, b1, b2, b3⟩, ⟨y', b1', b2', b3'⟩⟩ := h x (by omega)
        exact ⟨⟨y, b1, by rw [q1 x e, pk_un e]; exact b2, b3⟩, ⟨y', b1', by rw [q2 x e, pk_un e]; exact b2', b3'⟩⟩
    · rw [Nat.zero_testBit]; exact ⟨fun q => absurd q (by decide), fun q => absurd q.1 (Nat.not_lt_zero k)⟩
    · rw [Nat.zero_testBit]; exact ⟨fun q => absurd q (by decide), fun q => absurd q.1 (Nat.not_lt_zero k)⟩
theorem pr_0 (r : jm_M) (T : Nat) (p : Nat → Nat) : q_pr r T p 0 = 0 := by
  have h : q_ps r p 0 = 0 := sS_0 1024 (fun z _ => by
    show q_v (r 31 3) * q_v (r 27 z) * (0 - 1) = 0
    rw [Nat.zero_sub, Nat.mul_zero])
  unfold q_pr
  rw [h]; rfl
theorem search_of {B M T R most : Nat} {gd : cm_D} {gj : cm_J} {c r : jm_M} (hB : B ≤ 512) (hM : M ≤ 9) (hR1 : 1 ≤ R) (hR : R ≤ 6) (hmost : most ≤ 9999) (hq : q_ok M T r) (hS : b_S B gd.2.1 c r) (c12 : c 12 0 = nI M) (hsz : ∀ k, k < M → k_sz r k ≤ 99 ∧ c 4 k = nI (k_sz r k)) (h0 : q_inv M (gj 0) (q_E r T)) (h1 : gj 1 0 = lN (q_v (r 31 3))) (e3 : c 3 = r 32) (hsym : ∀ i j, i < 10 → j < 10 → r 32 (10 * i + j) = r 32 (10 * j + i)) (P : Int32 → cm_M → Prop) (hn : k_A (q_pr r T) (k_ok r most) R M (fun _ => 0) 0 none = none → ∀ gj' J', (∀ k, (k < 42 ∨ 50 < k) → J' k = c k) → P 0 (gd, gj', J')) (hs : ∀ cc x, k_A (q_pr r T) (k_ok r most) R M (fun _ => 0) 0 none = some (cc, x) → ∀ gj' J', (∀ k, (k < 42 ∨ 52 < k) → J' k = c k) → J' 52 0 = nI M → (∀ j, j < M → J' 51 j = nI (x j)) → gj' 2 0 = lN cc → P 1 (gd, gj', J')) : vc_X2_search (nI R) (nI most) (gd, gj, c) P := by
  unfold vc_X2_search
  rw [if_neg (show ¬ (6 : Int32) < nI R from nI_nlt (a := 6) (by omega) (by omega))]
  refine nm_e (nm_e (nm_e ?_))
  refine cfill_of (c := jm_s (jm_s (jm_s c 48 (nI R)) 49 (nI most)) 50 0) 42 _ (fun z42 hz42 => cfill_of 43 _ (fun z43 hz43 => ?_))
  obtain ⟨c1, hc1⟩ : ∃ c1, c1 = jm_u (jm_u (jm_s (jm_s (jm_s c 48 (nI R)) 49 (nI most)) 50 0) 42 z42) 43 z43 := ⟨_, rfl⟩
  rw [← hc1]
  have ck : ∀ k, k ≠ 42 → k ≠ 43 → k ≠ 48 → k ≠ 49 → k ≠ 50 → c1 k = c k := fun k q1 q2 q3 q4 q5 => by rw [hc1, jm_un _ _ q2, jm_un _ _ q1, js_un _ _ q5, js_un _ _ q4, js_un _ _ q3]
  have z1 : jm_u (jm_u c1 46 (c1 46)) 47 (c1 47) = c1 := by
    rw [jm_u0]; exact jm_u0 c1 47
  have main := rt2 (gd := gd) (gj := gj) (c := c1) hM (by rw [ck 12 (by decide) (by decide) (by decide) (by decide) (by decide)]; exact c12) (fun (g9 : cm_M) => ∃ d15 : Nat, d15 ≤ 12 ∧ vc_X2_place d15 0 0 0 g9 (fun (g11 : cm_M) => (((g11.2.2 50 0) = 0) → ((jj_nb (g11.2.2 50 0)) ∧ (P (g11.2.2 50 0) g11))) ∧ ((¬ (g11.2.2 50 0) = 0) → (∀ g13 : cm_M, g13 = cm_u g11 51 (va_cpy (g11.2.2 45) (g11.2.2 51) 0 0 9) → (∀ g14 : cm_M, g14 = cm_s g13 52 (g13.2.2 12 0) → ((jj_nb (g14.2.2 50 0)) ∧ (P (g14.2.2 50 0) g14))))))) (fun u v huv => ⟨12, Nat.le_refl _, ?_⟩) M 0 (c1 46) (c1 47) (by omega) (fun x hx => absurd hx (Nat.not_lt_zero x))
  · rw [z1] at main
    exact ⟨M + 1, main⟩
  · obtain ⟨c0, hc0⟩ : ∃ c0, c0 = jm_u (jm_u c1 46 u) 47 v := ⟨_, rfl⟩
    rw [← hc0]
    have c0k : ∀ k, k ≠ 42 → k ≠ 43 → k ≠ 46 → k ≠ 47 → k ≠ 48 → k ≠ 49 → k ≠ 50 → c0 k = c k := fun k q1 q2 q3 q4 q5 q6 q7 => by rw [hc0, jm_un _ _ q4, jm_un _ _ q3]; exact ck k q1 q2 q5 q6 q7
    have d42 : c0 42 = z42 := by rw [hc0, hc1]; rfl
    have d43 : c0 43 = z43 := by rw [hc0, hc1]; rfl
    have d46 : c0 46 = u := by rw [hc0]; rfl
    have d47 : c0 47 = v := by rw [hc0]; rfl
    have d48 : c0 48 0 = nI R := by rw [hc0, hc1]; rfl
    have d49 : c0 49 0 = nI most := by rw [hc0, hc1]; rfl
    have d50 : c0 50 0 = 0 := by rw [hc0, hc1]; rfl
    have c13 : c1 3 = r 32 := by rw [ck 3 (by decide) (by decide) (by decide) (by decide) (by decide)]; exact e3
    have hX : k_X B M T R most gd gj c0 r := by
      refine ⟨hB, hM, hR, hmost, by rw [c0k 12 (by decide) (by decide) (by decide) (by decide) (by decide) (by decide) (by decide)]; exact c12, fun k hk => by rw [c0k 4 (by decide) (by decide) (by decide) (by decide) (by decide) (by decide) (by decide)]; exact hsz k hk, d48, d49, h0, h1, b_S_c hS (c0k 34 (by decide) (by decide) (by decide) (by decide) (by decide) (by decide) (by decide)) (c0k 35 (by decide) (by decide) (by decide) (by decide) (by decide) (by decide) (by decide)) (c0k 36 (by decide) (by decide) (by decide) (by decide) (by decide) (by decide) (by decide)), fun m hm => ?_, fun p n hn => pr_lt hq hn p⟩
      obtain ⟨⟨y, b1, b2, b3⟩, ⟨y', b1', b2', b3'⟩⟩ := huv m hm
      rw [d46, d47]
      rw [c13] at b3 b3'
      refine ⟨⟨y, b1, b2, fun j => ?_⟩, ⟨y', b1', b2', fun j => ?_⟩⟩
      · rw [b3 j]
        exact ⟨fun w => ⟨w.1, by rw [hsym j m (by omega) (by omega)]; exact w.2⟩, fun w => ⟨w.1, by rw [hsym m j (by omega) (by omega)]; exact w.2⟩⟩
      · rw [b3' j]
        exact ⟨fun w => ⟨w.1, by rw [hsym j m (by omega) (by omega)]; exact w.2⟩, fun w => ⟨w.1, by rw [hsym m j (by omega) (by omega)]; exact w.2⟩⟩
    have hS0 : k_S M 0 c0 r gj (fun _ => 0) none gj c0 := by
      refine ⟨fun _ _ _ => rfl, fun _ _ => rfl, ⟨fun x hx => ⟨⟨0, by decide, by rw [d42]; exact hz42 x hx, fun j => ?_⟩, by rw [d43]; exact hz43 x hx⟩, fun j hj => absurd hj (Nat.not_lt_zero j)⟩, Or.inl ⟨rfl, d50⟩⟩
      rw [Nat.zero_testBit]; exact ⟨fun q => absurd q (by decide), fun q => absurd q.1 (Nat.not_lt_zero j)⟩
    have pl := pl_all hX M 0 0 (fun _ => 0) none gj c0 12 (fun (g11 : cm_M) => (((g11.2.2 50 0) = 0) → ((jj_nb (g11.2.2 50 0)) ∧ (P (g11.2.2 50 0) g11))) ∧ ((¬ (g11.2.2 50 0) = 0) → (∀ g13 : cm_M, g13 = cm_u g11 51 (va_cpy (g11.2.2 45) (g11.2.2 51) 0 0 9) → (∀ g14 : cm_M, g14 = cm_s g13 52 (g13.2.2 12 0) → ((jj_nb (g14.2.2 50 0)) ∧ (P (g14.2.2 50 0) g14)))))) (by omega) (by omega) (Nat.le_refl _) hS0 (fun gj' J' hS' => ?_)
    · rw [pr_0] at pl
      exact pl
    · rw [k_same (M := M) (k_pr_hp r T) (k_ok_ho r most) M (fun _ => 0) 0 0 none (by omega) (fun j hj => absurd hj (Nat.not_lt_zero j)) (by omega)] at hS'
      obtain ⟨v1, v2, v3, v4⟩ := hS'
      have vk : ∀ k, (k < 42 ∨ 50 < k) → J' k = c k := fun k hk => by rw [v1 k (by omega) (by omega)]; exact c0k k (by omega) (by omega) (by omega) (by omega) (by omega) (by omega) (by omega)
      rcases v4 with ⟨eb, e50⟩ | ⟨cc, x, hc, eb, e50, e2, e45⟩
      · have f50 : ((gd, gj', J') : cm_M).2.2 50 0 = 0 := e50
        rw [f50]
        exact ⟨fun _ => ⟨jj_nb0, hn eb gj' J' vk⟩, fun q => absurd rfl q⟩
      · have f50 : ((gd, gj', J') : cm_M).2.2 50 0 = 1 := e50
        rw [f50]
        refine ⟨fun q => absurd q (by decide), fun _ => nm_e (nm_e ?_)⟩
        obtain ⟨J2, hJ2⟩ : ∃ J2, J2 = jm_s (jm_u J' 51 (va_cpy (J' 45) (J' 51) 0 0 9)) 52 (J' 12 0) := ⟨_, rfl⟩
        have e14 : cm_s (cm_u (gd, gj', J') 51 (va_cpy (((gd, gj', J') : cm_M).2.2 45) (((gd, gj', J') : cm_M).2.2 51) 0 0 9)) 52 ((cm_u (gd, gj', J') 51 (va_cpy (((gd, gj', J') : cm_M).2.2 45) (((gd, gj', J') : cm_M).2.2 51) 0 0 9)).2.2 12 0) = (gd, gj', J2) := by rw [hJ2]; rfl
        rw [e14]
        have g50 : ((gd, gj', J2) : cm_M).2.2 50 0 = 1 := by rw [hJ2]; exact e50
        rw [g50]
        refine ⟨jj_nb1, hs cc x eb gj' J2 (fun k hk => ?_) ?_ (fun j hj => ?_) e2⟩
        · rw [hJ2, js_un _ _ (by omega), jm_un _ _ (by omega)]; exact vk k (by omega)
        · rw [hJ2, js_k, vk 12 (by decide)]; exact c12
        · rw [hJ2, js_un _ _ (by decide), jm_uk, pk_cpy_in (Nat.zero_le j) (by omega), Nat.zero_add, Nat.sub_zero]
          exact e45 j hj
