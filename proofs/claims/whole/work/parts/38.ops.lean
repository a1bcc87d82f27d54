theorem jm_uu (g : jm_M) (k : Nat) (f f2 : Nat → Int32) : jm_u (jm_u g k f) k f2 = jm_u g k f2 := by
  funext j
  show (bif Nat.beq j k then f2 else (bif Nat.beq j k then f else g j)) = (bif Nat.beq j k then f2 else g j)
  cases Nat.beq j k <;> rfl
theorem b_cnt1_mono {w o x : Nat → Int32} {i p a : Nat} : ∀ b, a ≤ b → b_cnt1 w o x i p a ≤ b_cnt1 w o x i p b
  | 0, h => by rw [Nat.le_zero.mp h]; exact Nat.le_refl _
  | b + 1, h => by
    by_cases e : a = b + 1
    · rw [e]; exact Nat.le_refl _
    · have := b_cnt1_mono (w := w) (o := o) (x := x) (i := i) (p := p) b (by omega : a ≤ b)
      rw [b_cnt1]; omega
theorem n_m1 {k : Nat} (hk : k < 2 ^ 31) : nI k ≠ -1 := fun q => by
  have q2 : (nI k).toInt = (-1 : Int32).toInt := by rw [q]
  rw [nI_toInt (by omega)] at q2
  have : (-1 : Int32).toInt = -1 := by decide
  omega
/-- the bound of a routine's tie -/
theorem tie_lt {M T N : Nat} {r : jm_M} (hX : b_X M T N r) (hM : M ≤ 10) (hT16 : T ≤ 16) (hN : N ≤ 40) {i z : Nat} (hi : i < N) (hl : b_line T N (r 8 (16 * i + z)) (r 9 (16 * i + z)) (r 10 (16 * i + z))) {k : Nat} (e : b_tie (r 8 (16 * i + z)) (r 6 i).toNatClampNeg (r 9 (16 * i + z)).toNatClampNeg (r 6 (r 9 (16 * i + z)).toNatClampNeg).toNatClampNeg = some k) : k < 420 := by
  obtain ⟨h2, hh, eh⟩ := hX.2.2.1 i hi
  rw [eh, tn_nI (by omega)] at e
  rcases id hl with q | q | ⟨q, t, k2, q1, q2, q3, q4⟩ | ⟨q, k2, q1, q2⟩ | ⟨q, -⟩ | q
  · unfold b_tie at e; simp [q] at e
  · unfold b_tie at e; simp [q] at e
  · rw [q3, tn_nI (by omega)] at e
    unfold b_tie at e
    rcases q with q | q | q | q <;> simp [q] at e <;> omega
  · obtain ⟨h3, hh3, eh3⟩ := hX.2.2.1 k2 q1
    rw [q2, tn_nI (by omega), eh3, tn_nI (by omega)] at e
    unfold b_tie at e; simp [q] at e; omega
  · unfold b_tie at e; simp [q] at e
  · unfold b_tie at e; simp [q] at e
theorem drop_loop {M T N : Nat} {gC : cm_M} {gR : jm_M} (hT : b_T M T N gC.2.2 gR) (hX : b_X M T N gR) {i z : Nat} (hi : i < N) (ez : gR 7 i = nI z) (hz : z ≤ 16) (hlz : ∀ j, j < z → b_line T N (gR 8 (16 * i + j)) (gR 9 (16 * i + j)) (gR 10 (16 * i + j))) (K : cm_M → Prop) (Post : Int32 → cm_M → Prop) (hK : ∀ u : Nat → Int32, (∀ p, p < 420 → u p = nI (b_cnt (gR 6) (gR 7) (gR 8) (gR 9) p N - b_cnt1 (gR 6) (gR 8) (gR 9) i p z)) → K (gC.1, gC.2.1, jm_u gC.2.2 11 u)) : ∀ d j (u : Nat → Int32), j + d = z → (∀ p, p < 420 → u p = nI (b_cnt (gR 6) (gR 7) (gR 8) (gR 9) p N - b_cnt1 (gR 6) (gR 8) (gR 9) i p j)) → vc_X9_dropLines_9 (nI i) (nI z) K Post (d + 1) (nI j) (gC.1, gC.2.1, jm_u gC.2.2 11 u)
  | 0, j, u, hj, hu => by
    have : j = z := by omega
    subst this
    exact ⟨fun _ => hK u hu, fun q => absurd (nI_le (Nat.le_refl j) (by omega)) q⟩
  | d + 1, j, u, hj, hu => by
    obtain ⟨hM, hT16, hN, c12, r1, c13, r3, c14, r5, e4, e5, e6, e7, e8, e9, e10⟩ := id hT
    refine ⟨fun q => absurd q (nI_ge (by omega) (by omega)), fun _ => ?_⟩
    have y1 : nI i * 16 + nI j = nI (16 * i + j) := ij' (k := 16) (by omega)
    rw [y1]
    have f6 : (gC.1, gC.2.1, jm_u gC.2.2 11 u).2.2 6 = gR 6 := e6
    have f8 : (gC.1, gC.2.1, jm_u gC.2.2 11 u).2.2 8 = gR 8 := e8
    have f9 : (gC.1, gC.2.1, jm_u gC.2.2 11 u).2.2 9 = gR 9 := e9
    have f10 : (gC.1, gC.2.1, jm_u gC.2.2 11 u).2.2 10 = gR 10 := e10
    have hl := hlz j (by omega)
    refine tie_of hT16 hN (fun k hk => by
      obtain ⟨h2, hh, eh⟩ := hX.2.2.1 k hk
      exact ⟨h2, by omega, by rw [f6]; exact eh⟩) hi (by omega) (by rw [f8, f9, f10]; exact hl) _ ?_
    rw [f6, f8, f9]
    have hlt := fun k => tie_lt hX hM hT16 hN (k := k) hi hl
    have hst : ∀ p, b_cnt1 (gR 6) (gR 8) (gR 9) i p (j + 1) = b_cnt1 (gR 6) (gR 8) (gR 9) i p j + (if b_tie (gR 8 (16 * i + j)) (gR 6 i).toNatClampNeg (gR 9 (16 * i + j)).toNatClampNeg (gR 6 (gR 9 (16 * i + j)).toNatClampNeg).toNatClampNeg = some p then 1 else 0) := fun p => rfl
    obtain ⟨tie, htie⟩ : ∃ t, t = b_tie (gR 8 (16 * i + j)) (gR 6 i).toNatClampNeg (gR 9 (16 * i + j)).toNatClampNeg (gR 6 (gR 9 (16 * i + j)).toNatClampNeg).toNatClampNeg := ⟨_, rfl⟩
    rw [← htie]
    simp only [← htie] at hst hlt
    cases tie with
    | none =>
      refine ⟨fun _ => ?_, fun q => absurd rfl q⟩
      rw [nI_1]
      exact drop_loop hT hX hi ez hz hlz K Post hK d (j + 1) u (by omega) (fun p hp => by rw [hst p, hu p hp]; simp)
    | some k =>
      have hk : k < 420 := hlt k rfl
      have i3 : vp_in (nI k) 420 := vp_in_nI hk (by omega)
      have t3 : (nI k).toNatClampNeg = k := tn_nI (by omega)
      refine ⟨fun q => absurd q (n_m1 (by omega)), fun _ => ⟨i3, i3, nm_e ?_⟩⟩
      rw [nI_1]
      have e : cm_a (gC.1, gC.2.1, jm_u gC.2.2 11 u) 11 (nI k) (((gC.1, gC.2.1, jm_u gC.2.2 11 u) : cm_M).2.2 11 (nI k).toNatClampNeg + (-1)) = (gC.1, gC.2.1, jm_u gC.2.2 11 (upd u k (u k + (-1)))) := by
        rw [t3]
        show (gC.1, gC.2.1, jm_u (jm_u gC.2.2 11 u) 11 (upd u (nI k).toNatClampNeg (u k + (-1)))) = _
        rw [jm_uu, t3]
      refine cast (congrArg (fun g => vc_X9_dropLines_9 (nI i) (nI z) K Post (d + 1) (nI (j + 1)) g) e.symm) ?_
      refine drop_loop hT hX hi ez hz hlz K Post hK d (j + 1) _ (by omega) (fun p hp => ?_)
      by_cases qp : p = k
      · subst qp
        rw [pk_us, hu p hp, hst p, if_pos rfl]
        have h1 := b_cnt_ge (w := gR 6) (z := gR 7) (o := gR 8) (x := gR 9) (p := p) N hi
        rw [ez, tn_nI (by omega)] at h1
        have h2 := b_cnt1_mono (w := gR 6) (o := gR 8) (x := gR 9) (i := i) (p := p) z (show j + 1 ≤ z by omega)
        rw [hst p, if_pos rfl] at h2
        obtain ⟨q, hq⟩ : ∃ q, b_cnt (gR 6) (gR 7) (gR 8) (gR 9) p N - b_cnt1 (gR 6) (gR 8) (gR 9) i p j = q + 1 := ⟨b_cnt (gR 6) (gR 7) (gR 8) (gR 9) p N - b_cnt1 (gR 6) (gR 8) (gR 9) i p j - 1, by omega⟩
        rw [hq, pk_m1]; congr 1; omega
      · rw [pk_un qp, hu p hp, hst p, if_neg (fun q => qp (by injection q with q; exact q.symm))]; rfl
theorem op_clear {B : Nat} {gC : cm_M} {gR : jm_M} (h : b_R B gC gR) (a : Int32) : ∃ (r : Int32) (gR' : jm_M), (∀ P : Int32 → cm_M → Prop, (∀ g, b_R B g gR' → P r g) → vc_X10_clear a gC P) ∧ (∀ P : Int32 → jm_M → Prop, P r gR' → vr_clear a gR P) := by
  obtain ⟨M, T, N, hT, hX, ht, hH, hW, hP, hA, hI⟩ := id h
  obtain ⟨hM, hT16, hN, c12, r1, c13, r3, c14, r5, e4, e5, e6, e7, e8, e9, e10⟩ := id hT
  rcases ix_cases a (n := N) (by omega) with h1 | ⟨i, hi, rfl, h1⟩
  · refine ⟨-1, gR, fun P hp => ?_, fun P hp => ?_⟩
    · simp [vc_X10_clear, vc_hasRoutine_iff c14, h1, hp _ h]
    · simp [vr_clear, vr_isRoutine_iff hN r5, h1, hp]
  obtain ⟨x1, x2, x3, x4, x5⟩ := id hX
  obtain ⟨z, hz, ez, hlz⟩ := x4 i hi
  have t1 : (nI i).toNatClampNeg = i := tn_nI (by omega)
  have i1 : vp_in (nI i) 40 := vp_in_nI (by omega) (by omega)
  have cz : gC.2.2 7 i = nI z := by rw [e7, ez]
  refine ⟨nI z, jm_a gR 7 (nI i) 0, fun P hp => ?_, fun P hp => ?_⟩
  · unfold vc_X10_clear
    rw [vc_hasRoutine_iff c14, if_neg h1]
    refine ⟨fun q => absurd q (by decide), fun _ => ⟨i1, ?_⟩⟩
    rw [t1, cz]
    refine nm_e ⟨z + 1, ?_⟩
    have e0 : gC = (gC.1, gC.2.1, jm_u gC.2.2 11 (gC.2.2 11)) := by
      obtain ⟨gd, gj, gi⟩ := gC
      have : jm_u gi 11 (gi 11) = gi := by
        funext k
        by_cases q : k = 11
        · subst q; rfl
        · exact jm_un gi _ q
      rw [this]
    have main := drop_loop hT hX hi ez hz hlz (fun g6 => vp_in (nI i) 40 ∧ ∀ g7, g7 = cm_a g6 7 (nI i) 0 → P (nI z) g7) (fun r3 g4 => P r3 g4) (fun u hu => ⟨i1, nm_e (hp _ ?_)⟩) z 0 (gC.2.2 11) (by omega) (fun p hp => by rw [ht p hp]; rfl)
    · rw [← e0] at main; exact main
    · have s7 : jm_a gR 7 (nI i) 0 7 = upd (gR 7) i 0 := by show upd (gR 7) (nI i).toNatClampNeg 0 = _; rw [t1]
      have g7 : (cm_a (gC.1, gC.2.1, jm_u gC.2.2 11 u) 7 (nI i) 0).2.2 7 = upd (gR 7) i 0 := by show upd (gC.2.2 7) (nI i).toNatClampNeg 0 = _; rw [t1, e7]
      refine ⟨M, T, N, ⟨hM, hT16, hN, c12, r1, c13, r3, c14, r5, e4, e5, e6, by rw [s7, g7], e8, e9, e10⟩, ⟨x1, x2, x3, fun j hj => ?_, fun j hj hj2 => ?_⟩, fun p hp => ?_, hH, hW, hP, hA, hI⟩
      · rw [s7]
        by_cases q : j = i
        · subst q; exact ⟨0, by omega, pk_us, fun k hk => absurd hk (Nat.not_lt_zero k)⟩
        · rw [pk_un q]; exact x4 j hj
      · rw [s7, pk_un (by omega)]; exact x5 j hj hj2
      · show u p = nI (b_cnt (gR 6) (jm_a gR 7 (nI i) 0 7) (gR 8) (gR 9) p N)
        rw [hu p hp, s7]
        have mv := b_cnt_move (w := gR 6) (z := gR 7) (o := gR 8) (x := gR 9) (w2 := gR 6) (z2 := upd (gR 7) i 0) (o2 := gR 8) (x2 := gR 9) (p := p) (i := i) N (fun j hj hn => by rw [pk_un hn]) rfl rfl
        rw [if_pos hi, if_pos hi, pk_us, ez, tn_nI (by omega)] at mv
        have e0 : b_cnt1 (gR 6) (gR 8) (gR 9) i p (0 : Int32).toNatClampNeg = 0 := rfl
        rw [e0] at mv
        congr 1; omega
  · unfold vr_clear
    rw [vr_isRoutine_iff hN r5, if_neg h1, t1, ez]
    exact ⟨fun _ => ⟨i1, nm_e ⟨i1, nm_e hp⟩⟩, fun q => absurd q (by decide)⟩
