/-- what an op gives: one answer, and states that agree -/
def b_ok (B : Nat) (vc : (Int32 → cm_M → Prop) → Prop) (vr : (Int32 → jm_M → Prop) → Prop) : Prop := ∃ (r : Int32) (SC : cm_M → Prop) (SR : jm_M → Prop), (∀ P : Int32 → cm_M → Prop, (∀ g, SC g → P r g) → vc P) ∧ (∀ P : Int32 → jm_M → Prop, (∀ g, SR g → P r g) → vr P) ∧ ∀ g g2, SC g → SR g2 → b_R B g g2
/-- the cells when letters have come, one after the other -/
def b_fold (r : jm_M) (u : Nat → Int32) (xs : List Nat) : Nat → Int32 := xs.foldl (fun u l => upd u (r 41 l).toNatClampNeg (r 42 l)) u
theorem b_fold_add (r : jm_M) (u : Nat → Int32) (xs : List Nat) (l : Nat) : b_fold r u (xs ++ [l]) = upd (b_fold r u xs) (r 41 l).toNatClampNeg (r 42 l) := by
  unfold b_fold; rw [List.foldl_append]; rfl
theorem b_fold_ext (r : jm_M) {u v : Nat → Int32} (h : ∀ i, i < 128 → u i = v i) (xs : List Nat) : ∀ i, i < 128 → b_fold r u xs i = b_fold r v xs i := by
  induction xs generalizing u v with
  | nil => exact h
  | cons x xs ih =>
    refine ih (fun i hi => ?_)
    show upd u (r 41 x).toNatClampNeg (r 42 x) i = upd v (r 41 x).toNatClampNeg (r 42 x) i
    by_cases q : i = (r 41 x).toNatClampNeg
    · rw [q, pk_us, pk_us]
    · rw [pk_un q, pk_un q]; exact h i hi
theorem b_fold_out (r : jm_M) {T : Nat} (hT16 : T ≤ 16) {u : Nat → Int32} (xs : List Nat) (hx : ∀ l, l ∈ xs → ∃ k : Nat, k < 8 * T ∧ r 41 l = nI k) {i : Nat} (hi : 8 * T ≤ i) : b_fold r u xs i = u i := by
  induction xs generalizing u with
  | nil => rfl
  | cons x xs ih =>
    obtain ⟨k, hk, ek⟩ := hx x List.mem_cons_self
    show b_fold r (upd u (r 41 x).toNatClampNeg (r 42 x)) xs i = u i
    rw [ih (fun l hl => hx l (List.mem_cons_of_mem _ hl)), ek, tn_nI (by omega), pk_un (by omega)]
/-- class: all that wait come, in their order -/
theorem all_loop {B T : Nat} {gC : cm_M} {gR : jm_M} (hT16 : T ≤ 16) (hL : b_L T gC.1.2.1 gC.2.2 gR) (K : cm_M → Prop) (Post : Int32 → cm_M → Prop) {S : Nat} (eS : gR 40 0 = nI S) (hS : S ≤ 2000) (hK : K (gC.1, gC.2.1, jm_u gC.2.2 26 (b_fold gR (gC.2.2 26) (b_wl (gR 45) S)))) : ∀ d i, i + d = (b_wl (gR 45) S).length → vc_X6_arriveAll_7 (nI (b_wl (gR 45) S).length) K Post (d + 1) (nI i) (gC.1, gC.2.1, jm_u gC.2.2 26 (b_fold gR (gC.2.2 26) ((b_wl (gR 45) S).take i))) := by
  obtain ⟨S2, e, l1, l2, l3, l4, l5, l6, l7, l8, l9, l10, l11⟩ := hL
  have : S2 = S := by rw [eS] at l3; exact ((nI_eq (by omega) (by omega)).mp l3).symm
  subst this
  intro d
  induction d with
  | zero =>
    intro i hi
    have e : i = (b_wl (gR 45) S2).length := by omega
    refine ⟨fun _ => ?_, fun q => absurd (nI_le (by omega) (by omega)) q⟩
    rw [e, List.take_length]; exact hK
  | succ d ih =>
    intro i hi
    obtain ⟨x, hx⟩ : ∃ x, x = (b_wl (gR 45) S2).getD i 0 := ⟨_, rfl⟩
    have hi2 : i < (b_wl (gR 45) S2).length := by omega
    have hm : x ∈ b_wl (gR 45) S2 := by rw [hx]; exact gd_mem hi2
    have hxS : x < S2 := ((wl_mem _ _ _).mp hm).1
    obtain ⟨k, f, t, k1, k2, k3, k4, k5, k6, k7, k8, k9⟩ := l8 x hxS
    have t1 : (nI i).toNatClampNeg = i := tn_nI (by omega)
    have tx : (nI x).toNatClampNeg = x := tn_nI (by omega)
    have tk : (nI k).toNatClampNeg = k := tn_nI (by omega)
    have i1 : vp_in (nI i) 40 := vp_in_nI (by omega) (by omega)
    obtain ⟨u, hu⟩ : ∃ u, u = b_fold gR (gC.2.2 26) ((b_wl (gR 45) S2).take i) := ⟨_, rfl⟩
    have e39 : ((gC.1, gC.2.1, jm_u gC.2.2 26 u) : cm_M).2.2 39 i = nI x := by rw [hx]; exact l11 i hi2
    rw [← hu]
    unfold vc_X6_arriveAll_7
    rw [t1, e39, tx]
    refine ⟨fun q => absurd q (nI_ge (by omega) (by omega)), fun _ => ⟨i1, cellOf_of (T := T) (g := (gC.1, gC.2.1, jm_u gC.2.2 26 u)) (l := x) (show x < gC.1.2.1 2 by omega) l6 hT16 k1 k2 k3 k7 _ ⟨i1, vp_in_nI (show x < gC.1.2.1 3 by omega) (show gC.1.2.1 3 < 2 ^ 31 by omega), vp_in_nI (by omega) (by omega), nm_e ?_⟩⟩⟩
    have e3 : cm_a (gC.1, gC.2.1, jm_u gC.2.2 26 u) 26 (nI k) (((gC.1, gC.2.1, jm_u gC.2.2 26 u) : cm_M).2.2 38 x) = (gC.1, gC.2.1, jm_u gC.2.2 26 (b_fold gR (gC.2.2 26) ((b_wl (gR 45) S2).take (i + 1)))) := by
      have tk1 : (b_wl (gR 45) S2).take (i + 1) = (b_wl (gR 45) S2).take i ++ [x] := by
        rw [List.take_succ, hx, List.getD_eq_getElem?_getD, List.getElem?_eq_getElem hi2]; rfl
      rw [tk1, b_fold_add, ← hu, k4, tk, ← k8]
      show (gC.1, gC.2.1, jm_u (jm_u gC.2.2 26 u) 26 (upd u (nI k).toNatClampNeg (gC.2.2 38 x))) = _
      rw [jm_uu, tk]
    rw [e3, nI_1]
    exact ih (i + 1) (by omega)
/-- reference: all that wait come -/
theorem settle_loop {T S : Nat} {gR : jm_M} (hT16 : T ≤ 16) (hS : S ≤ 2000) (eS : gR 40 0 = nI S) (l8 : ∀ l, l < S → ∃ k : Nat, k < 8 * T ∧ gR 41 l = nI k ∧ (gR 45 l = 0 ∨ gR 45 l = 1)) (Post : Int32 → jm_M → Prop) (hP : ∀ v : Nat → Int32, (∀ x, x < S → v x = 0) → Post (nI (b_wl (gR 45) S).length) (jm_u (jm_u gR 45 v) 12 (b_fold gR (gR 12) (b_wl (gR 45) S)))) : ∀ d i (v : Nat → Int32), i + d = S → (∀ x, x < i → v x = 0) → (∀ x, i ≤ x → v x = gR 45 x) → vr_settle_4 Post (d + 1) (nI (b_wl (gR 45) i).length) (nI i) (jm_u (jm_u gR 45 v) 12 (b_fold gR (gR 12) (b_wl (gR 45) i)))
  | 0, i, v, hi, h1, h2 => by
    have e : i = S := by omega
    subst e
    have e40 : (jm_u (jm_u gR 45 v) 12 (b_fold gR (gR 12) (b_wl (gR 45) i))) 40 0 = nI i := eS
    unfold vr_settle_4
    rw [e40]
    exact ⟨fun _ => hP v h1, fun q => absurd (nI_le (Nat.le_refl _) (by omega)) q⟩
  | d + 1, i, v, hi, h1, h2 => by
    obtain ⟨u, hu⟩ : ∃ u, u = b_fold gR (gR 12) (b_wl (gR 45) i) := ⟨_, rfl⟩
    have e40 : (jm_u (jm_u gR 45 v) 12 u) 40 0 = nI S := eS
    obtain ⟨k, k1, k4, k9⟩ := l8 i (by omega)
    have t1 : (nI i).toNatClampNeg = i := tn_nI (by omega)
    have tk : (nI k).toNatClampNeg = k := tn_nI (by omega)
    have i2 : vp_in (nI i) 2000 := vp_in_nI (by omega) (by omega)
    have nin : ¬ (nI i < 0 ∨ nI S ≤ nI i) := not_or.mpr ⟨nI_pos (by omega), nI_ge (by omega) (by omega)⟩
    have e45 : (jm_u (jm_u gR 45 v) 12 u) 45 i = gR 45 i := h2 i (Nat.le_refl i)
    rw [← hu]
    unfold vr_settle_4
    rw [e40]
    refine ⟨fun q => absurd q (nI_ge (by omega) (by omega)), fun _ => ?_⟩
    unfold vr_deliver
    rw [vr_idx (by omega) _ _ e40, if_neg nin, t1, e45]
    rcases k9 with q | q
    · rw [q]
      refine ⟨fun _ => ⟨i2, fun w => absurd rfl w, fun _ => nm_e ?_⟩, fun w => absurd w (by decide)⟩
      have ew : b_wl (gR 45) (i + 1) = b_wl (gR 45) i := by rw [b_wl_succ, if_neg (by rw [q]; decide)]
      rw [nI_1, hu, ← ew, show nI (b_wl (gR 45) (i + 1)).length + 0 = nI (b_wl (gR 45) (i + 1)).length from nI_add _ 0]
      exact settle_loop hT16 hS eS l8 Post hP d (i + 1) v (by omega) (fun x hx => by
        by_cases w : x = i
        · subst w; rw [h2 x (Nat.le_refl x)]; exact q
        · exact h1 x (by omega)) (fun x hx => h2 x (by omega))
    · rw [q]
      refine ⟨fun _ => ⟨i2, fun _ => ⟨i2, nm_e ⟨i2, i2, ?_⟩⟩, fun w => absurd w (by decide)⟩, fun w => absurd w (by decide)⟩
      have u1 : jm_a (jm_u (jm_u gR 45 v) 12 u) 45 (nI i) 0 41 i = nI k := k4
      have u2 : jm_a (jm_u (jm_u gR 45 v) 12 u) 45 (nI i) 0 42 i = gR 42 i := rfl
      rw [u1, u2]
      refine ⟨vp_in_nI (by omega) (by omega), nm_e (nm_e ?_)⟩
      have ew : b_wl (gR 45) (i + 1) = b_wl (gR 45) i ++ [i] := by rw [b_wl_succ, if_pos q]
      have e3 : jm_a (jm_a (jm_u (jm_u gR 45 v) 12 u) 45 (nI i) 0) 12 (nI k) (gR 42 i) = jm_u (jm_u gR 45 (upd v i 0)) 12 (b_fold gR (gR 12) (b_wl (gR 45) (i + 1))) := by
        rw [ew, b_fold_add, ← hu, k4, tk]
        funext x
        by_cases w : x = 12
        · subst w
          show upd u (nI k).toNatClampNeg (gR 42 i) = upd u k (gR 42 i)
          rw [tk]
        · by_cases w2 : x = 45
          · subst w2
            show upd v (nI i).toNatClampNeg 0 = upd v i 0
            rw [t1]
          · unfold jm_a
            rw [jm_un _ _ w, jm_un _ _ w2, jm_un _ _ w, jm_un _ _ w2, jm_un _ _ w, jm_un _ _ w2]
      rw [e3]
      have el : nI (b_wl (gR 45) i).length + 1 = nI (b_wl (gR 45) (i + 1)).length := by rw [nI_1, ew, List.length_append]; rfl
      rw [el, nI_1]
      exact settle_loop hT16 hS eS l8 Post hP d (i + 1) _ (by omega) (fun x hx => by
        by_cases w : x = i
        · subst w; rw [pk_us]
        · rw [pk_un w]; exact h1 x (by omega)) (fun x hx => by rw [pk_un (by omega)]; exact h2 x (by omega))
theorem wl_nil {v : Nat → Int32} {S : Nat} (h : ∀ x, x < S → v x = 0) : b_wl v S = [] := by
  refine List.eq_nil_iff_forall_not_mem.mpr (fun x hx => ?_)
  obtain ⟨h1, h2⟩ := (wl_mem _ _ _).mp hx
  rw [h x h1] at h2
  exact absurd h2 (by decide)
theorem op_settle {B : Nat} {gC : cm_M} {gR : jm_M} (h : b_R B gC gR) : b_ok B (vc_X10_settle gC) (vr_settle gR) := by
  obtain ⟨M, T, N, hT, hX, ht, ⟨⟨y1, y2, y3⟩, hr, hk, hu, hs, hL⟩, hW, hP, hA, hI⟩ := id h
  obtain ⟨hM, hT16, hN, c12, r1, c13, r3, c14, r5, -⟩ := id hT
  obtain ⟨S, e, l1, l2, l3, l4, l5, l6, l7, l8, l9, l10, l11⟩ := id hL
  refine ⟨nI (b_wl (gR 45) S).length, fun g => g = (gC.1, gC.2.1, jm_s (jm_u gC.2.2 26 (b_fold gR (gC.2.2 26) (b_wl (gR 45) S))) 41 0), fun g => ∃ v : Nat → Int32, (∀ x, x < S → v x = 0) ∧ g = jm_u (jm_u gR 45 v) 12 (b_fold gR (gR 12) (b_wl (gR 45) S)), fun P hp => ?_, fun P hp => ?_, ?_⟩
  · unfold vc_X10_settle vc_X6_arriveAll
    rw [l10]
    refine nm_e ⟨(b_wl (gR 45) S).length + 1, ?_⟩
    have e0 : gC = (gC.1, gC.2.1, jm_u gC.2.2 26 (b_fold gR (gC.2.2 26) ((b_wl (gR 45) S).take 0))) := by
      obtain ⟨gd, gj, gi⟩ := gC
      have : jm_u gi 26 (gi 26) = gi := by
        funext k
        by_cases q : k = 26
        · subst q; rfl
        · exact jm_un gi _ q
      show _ = (gd, gj, jm_u gi 26 (gi 26))
      rw [this]
    have main := all_loop (B := B) hT16 hL (fun g5 => ∀ g6, g6 = cm_s g5 41 0 → P (nI (b_wl (gR 45) S).length) g6) (fun r g => P r g) l3 l1 (nm_e (hp _ rfl)) (b_wl (gR 45) S).length 0 (by omega)
    rw [← e0] at main
    exact main
  · refine ⟨S + 1, ?_⟩
    have e0 : gR = jm_u (jm_u gR 45 (gR 45)) 12 (b_fold gR (gR 12) (b_wl (gR 45) 0)) := by
      funext k
      by_cases q : k = 12
      · subst q; rfl
      · rw [jm_un _ _ q]
        by_cases q : k = 45
        · subst q; rfl
        · rw [jm_un _ _ q]
    have main := settle_loop hT16 l1 l3 (fun l hl => by obtain ⟨k, f, t, q⟩ := l8 l hl; exact ⟨k, q.1, q.2.2.2.1, q.2.2.2.2.2.2.2.2⟩) P (fun v hv => hp _ ⟨v, hv, rfl⟩) S 0 (gR 45) (by omega) (fun x hx => absurd hx (Nat.not_lt_zero x)) (fun x _ => rfl)
    rw [← e0] at main
    exact main
  · rintro g g2 rfl ⟨v, hv, rfl⟩
    have wn := wl_nil hv
    have d45 : jm_u (jm_u gR 45 v) 12 (b_fold gR (gR 12) (b_wl (gR 45) S)) 45 = v := rfl
    refine ⟨M, T, N, hT, hX, ht, ⟨⟨y1, fun i hi => b_fold_ext gR y2 _ i hi, fun i hi hi2 => ⟨(y3 i hi hi2).1, ?_⟩⟩, hr, hk, hu, hs, S, e, l1, l2, l3, l4, l5, l6, l7, fun l' hl' => ?_, ?_, ?_, ?_⟩, hW, hP, hA, hI⟩
    · show b_fold gR (gR 12) (b_wl (gR 45) S) i = 0
      rw [b_fold_out gR hT16 _ (fun l hl => by obtain ⟨k, f, t, q⟩ := l8 l ((wl_mem _ _ _).mp hl).1; exact ⟨k, q.1, q.2.2.2.1⟩) hi]
      exact (y3 i hi hi2).2
    · obtain ⟨k', f', t', m1, m2, m3, m4, m5, m6, m7, m8, m9⟩ := l8 l' hl'
      exact ⟨k', f', t', m1, m2, m3, m4, m5, m6, m7, m8, Or.inl (hv l' hl')⟩
    · rw [d45, wn]; exact Nat.zero_le _
    · rw [d45, wn]; rfl
    · intro j hj
      rw [d45, wn] at hj
      exact absurd hj (Nat.not_lt_zero j)
