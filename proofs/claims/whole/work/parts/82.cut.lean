/-! cut: the reference -/
theorem mb2 {J : jm_M} {x1 x2 : Int32} : ∀ d i (w : Nat → Int32), i + d = 6 → (∀ j, j < i → w j = 0) → ∃ w' : Nat → Int32, (∀ j, j < 6 → w' j = 0) ∧ ∀ K Post, K (jm_u J 37 w') → vr_mayBe_2 x1 x2 K Post (d + 1) (nI i) (jm_u J 37 w)
  | 0, i, w, hi, hw => by
    obtain rfl : i = 6 := by omega
    refine ⟨w, hw, fun K Post hK => ?_⟩
    unfold vr_mayBe_2
    exact ⟨fun _ => hK, fun q => absurd (by decide) q⟩
  | d + 1, i, w, hi, hw => by
    obtain ⟨w', h1, h2⟩ := mb2 (J := J) (x1 := x1) (x2 := x2) d (i + 1) (upd w i 0) (by omega) (fun j hj => by
      by_cases e : j = i
      · rw [e, pk_us]
      · rw [pk_un e]; exact hw j (by omega))
    refine ⟨w', h1, fun K Post hK => ?_⟩
    unfold vr_mayBe_2
    refine ⟨fun q => absurd q (nI_ge (b := 6) (by omega) (by omega)), fun _ => ⟨vp_in_nI (by omega) (by omega), nm_e ?_⟩⟩
    rw [jm_as _ _ _ (by omega), jm_uk, jm_uu, nI_1]
    exact h2 K Post hK
theorem mb23 {J : jm_M} {m M : Nat} {r : jm_M} {p : Nat → Nat} {x2 : Int32} (hM : M ≤ 9) (hm : m < M) (hp : ∀ j, j ≤ m → p j < 6 ∧ J 36 j = nI (p j)) (h2 : ∀ j, j < M → J 2 j = nI (k_sz r j)) : ∀ d i (w : Nat → Int32), i + d = m + 1 → (∀ x, x < 6 → w x = nI (sS (fun k => if p k = x then k_sz r k else 0) i)) → ∃ w' : Nat → Int32, (∀ x, x < 6 → w' x = nI (sS (fun k => if p k = x then k_sz r k else 0) (m + 1))) ∧ ∀ K Post, K (jm_u J 37 w') → vr_mayBe_23 (nI m) x2 K Post (d + 1) (nI i) (jm_u J 37 w)
  | 0, i, w, hi, hw => by
    obtain rfl : i = m + 1 := by omega
    refine ⟨w, hw, fun K Post hK => ?_⟩
    unfold vr_mayBe_23
    exact ⟨fun _ => hK, fun q => absurd (nI_lt (by omega) (by omega)) q⟩
  | d + 1, i, w, hi, hw => by
    obtain ⟨p6, ep⟩ := hp i (by omega)
    obtain ⟨w', q1, q2⟩ := mb23 (x2 := x2) hM hm hp h2 d (i + 1) (upd w (p i) (nI (sS (fun k => if p k = p i then k_sz r k else 0) i + k_sz r i))) (by omega) (fun x hx => by
      show _ = nI (sS (fun k => if p k = x then k_sz r k else 0) i + (if p i = x then k_sz r i else 0))
      by_cases e : x = p i
      · rw [e, pk_us, if_pos rfl]
      · rw [pk_un e, if_neg (fun u => e u.symm), Nat.add_zero]; exact hw x hx)
    refine ⟨w', q1, fun K Post hK => ?_⟩
    have f36 : (jm_u J 37 w) 36 i = nI (p i) := ep
    have f2 : (jm_u J 37 w) 2 i = nI (k_sz r i) := h2 i (by omega)
    have f37 : (jm_u J 37 w) 37 (p i) = nI (sS (fun k => if p k = p i then k_sz r k else 0) i) := by rw [jm_uk]; exact hw (p i) p6
    unfold vr_mayBe_23
    rw [tn_nI (by omega), f36, tn_nI (by omega), f37, f2, nI_add, jm_as _ _ _ (by omega), jm_uk, jm_uu, nI_1]
    exact ⟨fun q => absurd q (nI_nlt (by omega) (by omega)), fun _ => ⟨vp_in_nI (by omega) (by omega), vp_in_nI (by omega) (by omega), vp_in_nI (by omega) (by omega), vp_in_nI (by omega) (by omega), nm_e (q2 K Post hK)⟩⟩
theorem mb73 {J : jm_M} {m : Nat} {r : jm_M} {p : Nat → Nat} (hm : m < 9) (hp : ∀ j, j ≤ m → p j < 6 ∧ J 36 j = nI (p j)) (h32 : J 32 = r 32) (Post : Int32 → jm_M → Prop) (h1 : (∀ k, k < m → (r 32 (10 * k + m) = 1 → p k = p m) ∧ (r 32 (10 * k + m) = 2 → p k ≠ p m)) → Post 1 J) (h0 : ¬ (∀ k, k < m → (r 32 (10 * k + m) = 1 → p k = p m) ∧ (r 32 (10 * k + m) = 2 → p k ≠ p m)) → Post 0 J) : ∀ d k, k + d = m → (∀ i, i < k → (r 32 (10 * i + m) = 1 → p i = p m) ∧ (r 32 (10 * i + m) = 2 → p i ≠ p m)) → vr_mayBe_73 (nI m) J Post (d + 1) (nI k)
  | 0, k, hk, hq => by
    obtain rfl : k = m := by omega
    unfold vr_mayBe_73
    exact ⟨fun _ => h1 hq, fun q => absurd (nI_le (Nat.le_refl _) (by omega)) q⟩
  | d + 1, k, hk, hq => by
    obtain ⟨k6, ek⟩ := hp k (by omega)
    obtain ⟨m6, em⟩ := hp m (Nat.le_refl m)
    have ix : (10 : Int32) * nI k + nI m = nI (10 * k + m) := ij (k := 10) (by omega)
    have eo : nI (p k) = nI (p m) ↔ p k = p m := nI_eq (by omega) (by omega)
    have next : ((r 32 (10 * k + m) = 1 → p k = p m) ∧ (r 32 (10 * k + m) = 2 → p k ≠ p m)) → vr_mayBe_73 (nI m) J Post (d + 1) (nI (k + 1)) := fun w => mb73 hm hp h32 Post h1 h0 d (k + 1) (by omega) (fun i hi => by
      by_cases e : i = k
      · rw [e]; exact w
      · exact hq i (by omega))
    have bad : ¬ ((r 32 (10 * k + m) = 1 → p k = p m) ∧ (r 32 (10 * k + m) = 2 → p k ≠ p m)) → Post 0 J := fun w => h0 (fun u => w (u k (by omega)))
    have iv : vp_in (nI k) 10 := vp_in_nI (by omega) (by omega)
    have im : vp_in (nI m) 10 := vp_in_nI (by omega) (by omega)
    unfold vr_mayBe_73
    rw [ix, tn_nI (by omega), h32, tn_nI (by omega), tn_nI (by omega), ek, em, eo, nI_1]
    refine ⟨fun q => absurd q (nI_ge (by omega) (by omega)), fun _ => ⟨vp_in_nI (by omega) (by omega), nm_e ⟨fun q1 => ⟨fun q2 => next ⟨fun w => absurd w q1, fun w => absurd w q2⟩, fun q2 => ⟨iv, im, fun q3 => next ⟨fun w => absurd w q1, fun _ => q3⟩, fun q3 => bad (fun w => w.2 q2 q3)⟩⟩, fun q1 => ⟨iv, im, fun q3 => bad (fun w => q3 (w.1 q1)), fun q3 => ⟨fun q2 => next ⟨fun _ => q3, fun w => absurd w q2⟩, fun q2 => ⟨iv, im, fun q4 => absurd q3 q4, fun _ => bad (fun w => w.2 q2 q3)⟩⟩⟩⟩⟩⟩
theorem mb_of {J : jm_M} {m M rr most : Nat} {r : jm_M} {p : Nat → Nat} (hM : M ≤ 9) (hm : m < M) (hmost : most ≤ 9999) (hsz : ∀ k, k < M → k_sz r k ≤ 99) (hp : ∀ j, j ≤ m → rg_st p m rr j < 6 ∧ J 36 j = nI (rg_st p m rr j)) (h2 : ∀ j, j < M → J 2 j = nI (k_sz r j)) (h32 : J 32 = r 32) : ∃ w' : Nat → Int32, ∀ Post : Int32 → jm_M → Prop, (k_ok r most p m rr → Post 1 (jm_u J 37 w')) → (¬ k_ok r most p m rr → Post 0 (jm_u J 37 w')) → vr_mayBe (nI m) (nI most) J Post := by
  obtain ⟨w1, a1, a2⟩ := mb2 (J := J) (x1 := nI m) (x2 := nI most) 6 0 (J 37) (by omega) (fun j hj => absurd hj (Nat.not_lt_zero j))
  rw [jm_u0] at a2
  obtain ⟨w2, b1, b2⟩ := mb23 (x2 := nI most) (r := r) hM hm hp h2 (m + 1) 0 w1 (by omega) (fun x hx => a1 x hx)
  refine ⟨w2, fun Post h1 h0 => ⟨7, a2 _ Post ⟨m + 1 + 1, b2 _ Post ?_⟩⟩⟩
  obtain ⟨m6, em⟩ := hp m (Nat.le_refl m)
  rw [st_s] at m6 em
  have es : sS (fun k => if rg_st p m rr k = rr then k_sz r k else 0) (m + 1) = sS (fun k => if p k = rr then k_sz r k else 0) m + k_sz r m := by
    show sS (fun k => if rg_st p m rr k = rr then k_sz r k else 0) m + (if rg_st p m rr m = rr then k_sz r m else 0) = _
    rw [st_s, if_pos rfl]
    congr 1
    exact sS_ext m (fun k hk => by rw [st_n _ (by omega)])
  have hle := sz_le hsz p rr (show m ≤ M by omega)
  have hs := hsz m hm
  have f36 : (jm_u J 37 w2) 36 m = nI rr := em
  have f37 : (jm_u J 37 w2) 37 rr = nI (sS (fun k => if p k = rr then k_sz r k else 0) m + k_sz r m) := by rw [jm_uk, b1 rr m6, es]
  rw [tn_nI (by omega), f36, tn_nI (by omega), f37, nI_leI (by omega) (by omega)]
  have told : (∀ k, k < m → (r 32 (10 * k + m) = 1 → rg_st p m rr k = rg_st p m rr m) ∧ (r 32 (10 * k + m) = 2 → rg_st p m rr k ≠ rg_st p m rr m)) ↔ (∀ k, k < m → (r 32 (10 * k + m) = 1 → p k = rr) ∧ (r 32 (10 * k + m) = 2 → p k ≠ rr)) := by
    refine ⟨fun w k hk => ?_, fun w k hk => ?_⟩
    · have := w k hk
      rw [st_s, st_n _ (by omega)] at this
      exact this
    · rw [st_s, st_n _ (by omega)]; exact w k hk
  refine ⟨vp_in_nI (by omega) (by omega), vp_in_nI (by omega) (by omega), fun q => ⟨m + 1, ?_⟩, fun q => h0 (fun w => q w.1)⟩
  exact mb73 (J := jm_u J 37 w2) (r := r) (p := rg_st p m rr) (by omega) hp h32 Post (fun w => h1 ⟨q, told.mp w⟩) (fun w => h0 (fun u => w (told.mpr u.2))) m 0 (by omega) (fun i hi => absurd hi (Nat.not_lt_zero i))
/-! the reference's search -/
def k_l : k_B → Int64
  | none => -1
  | some (c, _) => lN c
def k_J (M : Nat) (r0 J : jm_M) (b : k_B) : Prop := (∀ k, (k < 35 ∨ 37 < k) → J k = r0 k) ∧ (∀ c x, b = some (c, x) → c < 2 ^ 62 ∧ ∀ j, j < M → J 35 j = nI (x j)) ∧ (b = none → J 35 = r0 35)
/-- what the reference knows -/
def k_R (M T R most : Nat) (r0 : jm_M) : Prop := M ≤ 9 ∧ R ≤ 6 ∧ most ≤ 9999 ∧ q_ok M T r0 ∧ r0 1 0 = nI M ∧ ∀ k, k < M → k_sz r0 k ≤ 99 ∧ r0 2 k = nI (k_sz r0 k)
theorem k_jo {r0 J : jm_M} (h : ∀ k, (k < 35 ∨ 37 < k) → J k = r0 k) : J = jm_o r0 J 35 37 := by
  funext x
  by_cases q : 35 ≤ x ∧ x ≤ 37
  · rw [jm_o_in _ _ q.1 q.2]
  · rw [jm_o_out _ _ (by omega)]; exact h x (by omega)
theorem k_prJ {M T R most n : Nat} {r0 J : jm_M} (hR : k_R M T R most r0) (hJ : ∀ k, (k < 35 ∨ 37 < k) → J k = r0 k) {p : Nat → Nat} (hn : n ≤ M) (hp : ∀ a, a < n → p a < 6 ∧ J 36 a = nI (p a)) (P : Int64 → Prop) (hP : P (lN (q_pr r0 T p n))) : vr_priceOf 36 (nI n) J P := by
  have e := k_jo hJ
  have hq : q_ok M T J := by rw [e]; exact hR.2.2.2.1
  refine prR hq hn hp P ?_
  have e2 : q_pr J T p n = q_pr r0 T p n := by rw [e]; rfl
  rw [e2]; exact hP
theorem c82 {J r0 : jm_M} {M : Nat} {p : Nat → Nat} {x1 x2 : Int32} {x3 : Int64} {x5 : Int32} (hM : M ≤ 9) (e1 : J 1 0 = nI M) (h36 : ∀ j, j < M → J 36 j = nI (p j)) : ∀ d i (u : Nat → Int32), i + d = M → (∀ j, j < i → u j = nI (p j)) → ∃ u' : Nat → Int32, (∀ j, j < M → u' j = nI (p j)) ∧ ∀ K Post, K (jm_u J 35 u') → vr_cut_82 x1 x2 x3 x5 K Post (d + 1) (nI i) (jm_u J 35 u)
  | 0, i, u, hi, hu => by
    obtain rfl : i = M := by omega
    refine ⟨u, hu, fun K Post hK => ?_⟩
    unfold vr_cut_82
    rw [show (jm_u J 35 u) 1 0 = nI i from e1]
    exact ⟨fun _ => hK, fun q => absurd (nI_le (Nat.le_refl _) (by omega)) q⟩
  | d + 1, i, u, hi, hu => by
    obtain ⟨u', q1, q2⟩ := c82 (r0 := r0) (x1 := x1) (x2 := x2) (x3 := x3) (x5 := x5) hM e1 h36 d (i + 1) (upd u i (nI (p i))) (by omega) (fun j hj => by
      by_cases e : j = i
      · rw [e, pk_us]
      · rw [pk_un e]; exact hu j (by omega))
    refine ⟨u', q1, fun K Post hK => ?_⟩
    have f36 : (jm_u J 35 u) 36 i = nI (p i) := h36 i (by omega)
    unfold vr_cut_82
    rw [show (jm_u J 35 u) 1 0 = nI M from e1, tn_nI (by omega), f36, jm_as _ _ _ (by omega), jm_uk, jm_uu, nI_1]
    exact ⟨fun q => absurd q (nI_ge (by omega) (by omega)), fun _ => ⟨vp_in_nI (by omega) (by omega), vp_in_nI (by omega) (by omega), nm_e (q2 K Post hK)⟩⟩
def k_U (M T R most : Nat) (r0 : jm_M) (K : Int64 → jm_M → Prop) (Post : Int64 → jm_M → Prop) (k : Nat) : Prop := ∀ (m : Nat) (p : Nat → Nat) (b : k_B) (J : jm_M), m + k = M → (∀ j, j < m → p j < 6 ∧ J 36 j = nI (p j)) → k_J M r0 J b → ¬ k_w b (q_pr r0 T p m) → (m < M → J 36 m + 1 = nI 0) → ∃ (J' : jm_M) (N : Nat), k_J M r0 J' (k_A (q_pr r0 T) (k_ok r0 most) R k p m b) ∧ (∀ j, j < m → J' 36 j = nI (p j)) ∧ ∀ f, vr_cut_52 (nI R) (nI most) K K Post f (k_l (k_A (q_pr r0 T) (k_ok r0 most) R k p m b)) (nI m + (-1)) J' → vr_cut_52 (nI R) (nI most) K K Post (f + N) (k_l b) (nI m) J
theorem k_U0 {M T R most : Nat} {r0 : jm_M} (hR : k_R M T R most r0) (K Post : Int64 → jm_M → Prop) : k_U M T R most r0 K Post 0 := by
  intro m p b J hm hp hJ hw _
  obtain rfl : m = M := by omega
  obtain ⟨hM, hR6, hmost, hq, r1, hsz⟩ := id hR
  have e1 : J 1 0 = nI m := by rw [hJ.1 1 (by decide)]; exact r1
  have eA : k_A (q_pr r0 T) (k_ok r0 most) R 0 p m b = some (q_pr r0 T p m, p) := ki_n hw
  rw [eA]
  obtain ⟨u', q1, q2⟩ := c82 (r0 := r0) (x1 := nI R) (x2 := nI most) (x3 := lN (q_pr r0 T p m)) (x5 := nI m) hM e1 (fun j hj => (hp j hj).2) m 0 (J 35) (by omega) (fun j hj => absurd hj (Nat.not_lt_zero j))
  rw [jm_u0] at q2
  have jk : ∀ k, k ≠ 35 → (jm_u J 35 u') k = J k := fun k h => jm_un _ _ h
  refine ⟨jm_u J 35 u', 0, ⟨fun k hk => by rw [jk k (by omega)]; exact hJ.1 k hk, fun c x e => ?_, fun e => by cases e⟩, fun j hj => by rw [jk 36 (by decide)]; exact (hp j hj).2, fun f h => ?_⟩
  · cases e
    exact ⟨pr_lt hq (Nat.le_refl m) p, fun j hj => by rw [jm_uk]; exact q1 j hj⟩
  · cases f with
    | zero => exact h.elim
    | succ f =>
      show vr_cut_52 (nI R) (nI most) K K Post (f + 1) (k_l b) (nI m) J
      unfold vr_cut_52
      rw [e1]
      refine ⟨fun q => absurd q (nI_pos (by omega)), fun _ => ⟨fun q => absurd rfl q, fun _ => ?_⟩⟩
      refine k_prJ hR hJ.1 (Nat.le_refl m) hp _ ⟨m + 1, q2 _ Post ?_⟩
      rw [vr_cut_52] at h
      cases m with
      | zero => exact ⟨fun q => absurd q (by decide), fun _ => h.1 (by decide)⟩
      | succ m' =>
        rw [pk_m1] at h ⊢
        have g1 : (jm_u J 35 u') 1 0 = nI (m' + 1) := e1
        have h2 := (h.2 (nI_pos (by omega))).1 (fun q => by rw [g1] at q; exact absurd ((nI_eq (by omega) (by omega)).mp q) (by omega))
        exact ⟨fun _ => h2, fun q => absurd (nI_pos' (by omega)) q⟩
