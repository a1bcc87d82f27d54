theorem gd_lt {xs : List Nat} (h : xs.Pairwise (· < ·)) {i j : Nat} (hij : i < j) (hj : j < xs.length) : xs.getD i 0 < xs.getD j 0 := by
  rw [List.getD_eq_getElem?_getD, List.getD_eq_getElem?_getD, List.getElem?_eq_getElem hj, List.getElem?_eq_getElem (Nat.lt_trans hij hj)]
  exact List.pairwise_iff_getElem.mp h i j _ _ hij
theorem gd_erase (xs : List Nat) (j x : Nat) : (xs.eraseIdx j).getD x 0 = if x < j then xs.getD x 0 else xs.getD (x + 1) 0 := by
  rw [List.getD_eq_getElem?_getD, List.getElem?_eraseIdx]
  split <;> rw [List.getD_eq_getElem?_getD]
theorem wl_del {f : Nat → Int32} {S l j : Nat} (hj : j < (b_wl f S).length) (e : (b_wl f S).getD j 0 = l) : b_wl (upd f l 0) S = (b_wl f S).eraseIdx j := by
  refine srt_eq _ _ (wl_srt _ _) (List.Pairwise.sublist (List.eraseIdx_sublist _ _) (wl_srt f S)) (fun x => ?_)
  rw [wl_mem]
  constructor
  · rintro ⟨h1, h2⟩
    by_cases q : x = l
    · subst q; rw [pk_us] at h2; exact absurd h2 (by decide)
    · rw [pk_un q] at h2
      obtain ⟨k, hk, ek⟩ := mem_gd ((wl_mem f S x).mpr ⟨h1, h2⟩)
      have hkj : k ≠ j := fun w => q (by rw [← ek, w, e])
      rw [List.mem_eraseIdx_iff_getElem?]
      refine ⟨k, hkj, ?_⟩
      rw [List.getElem?_eq_getElem hk]
      rw [List.getD_eq_getElem?_getD, List.getElem?_eq_getElem hk] at ek
      simp at ek; rw [ek]
  · intro hx
    rw [List.mem_eraseIdx_iff_getElem?] at hx
    obtain ⟨k, hkj, ek⟩ := hx
    have hk : k < (b_wl f S).length := by
      rcases Nat.lt_or_ge k (b_wl f S).length with w | w
      · exact w
      · rw [List.getElem?_eq_none w] at ek; exact absurd ek (by simp)
    have ek2 : (b_wl f S).getD k 0 = x := by rw [List.getD_eq_getElem?_getD, ek]; rfl
    have hm : x ∈ b_wl f S := by rw [← ek2]; exact gd_mem hk
    have hne : x ≠ l := by
      rcases Nat.lt_or_ge k j with w | w
      · have := gd_lt (wl_srt f S) w hj; omega
      · have := gd_lt (wl_srt f S) (show j < k by omega) hk; omega
    rw [pk_un hne]
    exact (wl_mem f S x).mp hm
/-- the letters behind move up -/
theorem shift_loop {gd : cm_D} {gj : cm_J} {g : jm_M} {W : Nat} (hW : W < 40) (e41 : g 41 0 = nI W) (Post : Int32 → cm_M → Prop) : ∀ d i (u : Nat → Int32), i + d = W → (∀ u' : Nat → Int32, (∀ x, x < i → u' x = u x) → (∀ x, i ≤ x → x < W → u' x = u (x + 1)) → Post 1 (gd, gj, jm_u g 39 u')) → vc_X6_arrive_42 Post (d + 1) (nI i) (gd, gj, jm_u g 39 u)
  | 0, i, u, hi, hp => by
    have e : i = W := by omega
    subst e
    have e2 : ((gd, gj, jm_u g 39 u) : cm_M).2.2 41 0 = nI i := e41
    unfold vc_X6_arrive_42
    rw [e2]
    exact ⟨fun _ => hp u (fun _ _ => rfl) (fun x h1 h2 => absurd h2 (by omega)), fun q => absurd (nI_le (Nat.le_refl _) (by omega)) q⟩
  | d + 1, i, u, hi, hp => by
    have e2 : ((gd, gj, jm_u g 39 u) : cm_M).2.2 41 0 = nI W := e41
    have t1 : (nI i).toNatClampNeg = i := tn_nI (by omega)
    have t2 : (nI (i + 1)).toNatClampNeg = i + 1 := tn_nI (by omega)
    unfold vc_X6_arrive_42
    rw [e2, nI_1]
    refine ⟨fun q => absurd q (nI_ge (by omega) (by omega)), fun _ => ⟨vp_in_nI (by omega) (by omega), vp_in_nI (by omega) (by omega), nm_e ?_⟩⟩
    have e3 : cm_a (gd, gj, jm_u g 39 u) 39 (nI i) (((gd, gj, jm_u g 39 u) : cm_M).2.2 39 (nI (i + 1)).toNatClampNeg) = (gd, gj, jm_u g 39 (upd u i (u (i + 1)))) := by
      rw [t2]
      show (gd, gj, jm_u (jm_u g 39 u) 39 (upd u (nI i).toNatClampNeg (u (i + 1)))) = _
      rw [jm_uu, t1]
    rw [e3]
    refine shift_loop hW e41 Post d (i + 1) _ (by omega) (fun u' h1 h2 => hp u' (fun x hx => ?_) (fun x hx1 hx2 => ?_))
    · rw [h1 x (by omega), pk_un (by omega)]
    · by_cases q : x = i
      · subst q; rw [h1 x (by omega), pk_us]
      · rw [h2 x (by omega) hx2, pk_un (by omega)]
theorem op_deliver {B : Nat} {gC : cm_M} {gR : jm_M} (h : b_R B gC gR) (a : Int32) : ∃ (r : Int32) (gR' : jm_M), (∀ P : Int32 → cm_M → Prop, (∀ g, b_R B g gR' → P r g) → vc_X10_deliver a gC P) ∧ (∀ P : Int32 → jm_M → Prop, P r gR' → vr_deliver a gR P) := by
  obtain ⟨M, T, N, hT, hX, ht, ⟨⟨y1, y2, y3⟩, hr, hk, hu, hs, S, e, l1, l2, l3, l4, l5, l6, l7, l8, l9, l10, l11⟩, hW, hP, hA, hI⟩ := id h
  obtain ⟨hM, hT16, hN, c12, r1, c13, r3, c14, r5, -⟩ := id hT
  rcases ix_cases a (n := S) (by omega) with h1 | ⟨l, hl, rfl, h1⟩
  · refine ⟨-1, gR, fun P hp => ?_, fun P hp => ?_⟩
    · simp [vc_X10_deliver, vc_knows_iff l2, h1, hp _ h]
    · unfold vr_deliver; rw [vr_idx (by omega) gR _ l3, if_pos h1]; exact ⟨fun q => absurd rfl q, fun _ => hp⟩
  obtain ⟨k, f, t, k1, k2, k3, k4, k5, k6, k7, k8, k9⟩ := l8 l hl
  have t1 : (nI l).toNatClampNeg = l := tn_nI (by omega)
  have tk : (nI k).toNatClampNeg = k := tn_nI (by omega)
  have i2 : vp_in (nI l) 2000 := vp_in_nI (by omega) (by omega)
  have i3 : vp_in (nI l) (gC.1.2.1 2) := vp_in_nI (by omega) (by omega)
  have i4 : vp_in (nI l) (gC.1.2.1 3) := vp_in_nI (by omega) (by omega)
  have ik : vp_in (nI k) 128 := vp_in_nI (by omega) (by omega)
  obtain ⟨j, j1, j2, j3, j4⟩ := place_of (g := gC) (l := l) l9 l10 l11 (fun x hx => by have := ((wl_mem _ _ _).mp hx).1; omega) (by omega)
  rw [wl_mem] at j2
  rcases k9 with q | q
  · have hj : ¬ j < (b_wl (gR 45) S).length := fun w => absurd (j2.mp w).2 (by rw [q]; decide)
    refine ⟨0, gR, fun P hp => ?_, fun P hp => ?_⟩
    · unfold vc_X10_deliver; rw [vc_knows_iff l2, if_neg h1]
      refine ⟨fun _ => j4 _ ⟨fun w => absurd w ?_, fun _ => ⟨fun _ => hp _ h, fun w => absurd rfl w⟩⟩, fun q => absurd q (by decide)⟩
      rw [l10]; exact nI_nlt (by omega) (by omega)
    · unfold vr_deliver; rw [vr_idx (by omega) gR _ l3, if_neg h1, t1, q]
      exact ⟨fun _ => ⟨i2, fun w => absurd rfl w, fun _ => hp⟩, fun q => absurd q (by decide)⟩
  · have hj := j2.mpr ⟨hl, q⟩
    have ej := j3 hj
    have wd := wl_del hj ej
    refine ⟨1, jm_a (jm_a gR 45 (nI l) 0) 12 (nI k) (gR 42 l), fun P hp => ?_, fun P hp => ?_⟩
    · unfold vc_X10_deliver; rw [vc_knows_iff l2, if_neg h1]
      refine ⟨fun _ => j4 _ ⟨fun _ => ?_, fun w => absurd ?_ w⟩, fun q => absurd q (by decide)⟩
      · refine cellOf_of (T := T) (l := l) (by omega) l6 hT16 k1 k2 k3 k7 _ ⟨i4, ik, nm_e ?_⟩
        obtain ⟨W, hWe⟩ : ∃ W, (b_wl (gR 45) S).length = W + 1 := ⟨(b_wl (gR 45) S).length - 1, by omega⟩
        have e41 : (cm_a gC 26 (nI k) (gC.2.2 38 (nI l).toNatClampNeg)).2.2 41 0 - 1 = nI W := by
          show gC.2.2 41 0 - 1 = nI W
          rw [l10, hWe, nI_pred]
        rw [e41]
        refine nm_e ⟨W - j + 1, ?_⟩
        have eg : cm_s (cm_a gC 26 (nI k) (gC.2.2 38 (nI l).toNatClampNeg)) 41 (nI W) = (gC.1, gC.2.1, jm_u (jm_s (jm_a gC.2.2 26 (nI k) (gC.2.2 38 (nI l).toNatClampNeg)) 41 (nI W)) 39 (gC.2.2 39)) := by
          show (gC.1, gC.2.1, jm_s (jm_a gC.2.2 26 (nI k) (gC.2.2 38 (nI l).toNatClampNeg)) 41 (nI W)) = _
          congr 2
          funext x
          by_cases w : x = 39
          · subst w; rfl
          · rw [jm_un _ _ w]
        rw [eg]
        refine shift_loop (W := W) (by omega) rfl _ (W - j) j _ (by omega) (fun u' hu1 hu2 => ⟨fun w => absurd w (by decide), fun _ => hp _ ?_⟩)
        have d45 : jm_a (jm_a gR 45 (nI l) 0) 12 (nI k) (gR 42 l) 45 = upd (gR 45) l 0 := by show upd (gR 45) (nI l).toNatClampNeg 0 = _; rw [t1]
        have d12 : jm_a (jm_a gR 45 (nI l) 0) 12 (nI k) (gR 42 l) 12 = upd (gR 12) k (gR 42 l) := by show upd (gR 12) (nI k).toNatClampNeg _ = _; rw [tk]
        have d26 : (jm_u (jm_s (jm_a gC.2.2 26 (nI k) (gC.2.2 38 (nI l).toNatClampNeg)) 41 (nI W)) 39 u') 26 = upd (gC.2.2 26) k (gR 42 l) := by
          show upd (gC.2.2 26) (nI k).toNatClampNeg (gC.2.2 38 (nI l).toNatClampNeg) = _
          rw [tk, t1, k8]
        refine ⟨M, T, N, hT, hX, ht, ⟨⟨y1, fun i hi => ?_, fun i hi hi2 => ⟨(y3 i hi hi2).1, ?_⟩⟩, hr, hk, hu, hs, S, e, l1, l2, l3, l4, l5, l6, l7, fun l' hl' => ?_, ?_, ?_, ?_⟩, hW, hP, hA, hI⟩
        · show (jm_u (jm_s (jm_a gC.2.2 26 (nI k) (gC.2.2 38 (nI l).toNatClampNeg)) 41 (nI W)) 39 u') 26 i = jm_a (jm_a gR 45 (nI l) 0) 12 (nI k) (gR 42 l) 12 i
          rw [d26, d12]
          by_cases w : i = k
          · subst w; rw [pk_us, pk_us]
          · rw [pk_un w, pk_un w]; exact y2 i hi
        · rw [d12, pk_un (by omega)]; exact (y3 i hi hi2).2
        · obtain ⟨k', f', t', m1, m2, m3, m4, m5, m6, m7, m8, m9⟩ := l8 l' hl'
          refine ⟨k', f', t', m1, m2, m3, m4, m5, m6, m7, m8, ?_⟩
          rw [d45]
          by_cases w : l' = l
          · subst w; rw [pk_us]; exact Or.inl rfl
          · rw [pk_un w]; exact m9
        · rw [d45, wd, List.length_eraseIdx]; split <;> omega
        · rw [d45, wd, List.length_eraseIdx, if_pos hj, hWe]; rfl
        · intro x hx
          rw [d45, wd, List.length_eraseIdx, if_pos hj, hWe] at hx
          rw [d45, wd, gd_erase]
          show u' x = _
          by_cases w : x < j
          · rw [if_pos w, hu1 x w]; exact l11 x (by omega)
          · rw [if_neg w, hu2 x (by omega) (by omega)]; exact l11 (x + 1) (by omega)
      · rw [l10]; exact nI_lt hj (by omega)
    · unfold vr_deliver; rw [vr_idx (by omega) gR _ l3, if_neg h1, t1, q]
      refine ⟨fun _ => ⟨i2, fun w => ⟨i2, nm_e ⟨i2, i2, ?_⟩⟩, fun w => absurd w (by decide)⟩, fun q => absurd q (by decide)⟩
      have u1 : jm_a gR 45 (nI l) 0 41 l = nI k := k4
      have u2 : jm_a gR 45 (nI l) 0 42 l = gR 42 l := rfl
      rw [u1, u2]
      exact ⟨ik, nm_e hp⟩
