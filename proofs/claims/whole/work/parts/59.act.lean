theorem b_S_n {B : Nat} {n n' : Nat → Nat} {c r : jm_M} (h : b_S B n c r) (h0 : n' 0 = n 0) (h1 : n' 1 = n 1) : b_S B n' c r := by
  obtain ⟨K, e, k1, k2, k3, k4, k5, k6⟩ := h
  exact ⟨K, e, k1, by rw [h0]; exact k2, by rw [h0]; exact k3, by rw [h0]; exact k4, by rw [h0, h1]; exact k5, k6⟩
/-- whether the letters can be taken -/
def b_can (s w S : Nat) : Prop := s = 0 ∨ (w + s ≤ 40 ∧ S + s ≤ 2000)
theorem can_c {g : cm_M} {s w S : Nat} (hs : s ≤ 128) (hw : w ≤ 40) (hS : S ≤ 2000) (e41 : g.2.2 41 0 = nI w) (e40 : g.2.2 40 0 = nI S) (P : Int32 → Prop) (h1 : b_can s w S → P 1) (h0 : ¬ b_can s w S → P 0) : vc_X6_canTake (nI s) g P := by
  unfold vc_X6_canTake
  rw [e41, e40, nI_add, nI_add]
  have c1 : nI s = 0 ↔ s = 0 := nI_eq (b := 0) (by omega) (by omega)
  have c2 : (40 : Int32) < nI (w + s) ↔ 40 < w + s := nI_ltI (a := 40) (by omega) (by omega)
  have c3 : (2000 : Int32) < nI (S + s) ↔ 2000 < S + s := nI_ltI (a := 2000) (by omega) (by omega)
  rw [c1, c2, c3]
  refine ⟨fun h => h1 (Or.inl h), fun h => ⟨fun q => h0 (fun w2 => ?_), fun q => ⟨fun q2 => h0 (fun w2 => ?_), fun q2 => h1 (Or.inr ⟨by omega, by omega⟩)⟩⟩⟩
  · rcases w2 with w2 | ⟨w2, w3⟩ <;> omega
  · rcases w2 with w2 | ⟨w2, w3⟩ <;> omega
theorem can_r {T : Nat} {n : Nat → Nat} {c r : jm_M} (hL : b_L T n c r) {s w S : Nat} (hs : s ≤ 128) (hw : w ≤ 40) (hS : S ≤ 2000) (e41 : c 41 0 = nI w) (e40 : r 40 0 = nI S) (A F : Prop) (h1 : b_can s w S → A) (h0 : ¬ b_can s w S → F) : ((nI s ≤ 0) → A) ∧ ((¬ nI s ≤ 0) → (vr_waitingNow r (fun (r26 : Int32) => ((40 < (r26 + nI s)) → F) ∧ ((¬ 40 < (r26 + nI s)) → (((((r 40 0) + nI s) ≤ 2000) → A) ∧ ((¬ ((r 40 0) + nI s) ≤ 2000) → F)))))) := by
  have c1 : nI s ≤ 0 ↔ s ≤ 0 := nI_leI (b := 0) (by omega) (by omega)
  have c2 : (40 : Int32) < nI (w + s) ↔ 40 < w + s := nI_ltI (a := 40) (by omega) (by omega)
  have c3 : nI (S + s) ≤ 2000 ↔ S + s ≤ 2000 := nI_leI (b := 2000) (by omega) (by omega)
  refine ⟨fun q => h1 (Or.inl (by have := c1.mp q; omega)), fun q => vr_waitingNow_of hL ?_⟩
  rw [e41, e40, nI_add, nI_add, c2, c3]
  rw [c1] at q
  refine ⟨fun q1 => h0 (fun w2 => ?_), fun q1 => ⟨fun q2 => h1 (Or.inr ⟨by omega, q2⟩), fun q2 => h0 (fun w2 => ?_)⟩⟩
  · rcases w2 with w2 | ⟨w2, w3⟩ <;> omega
  · rcases w2 with w2 | ⟨w2, w3⟩ <;> omega
theorem jm_split (g0 g : jm_M) {k lo hi : Nat} (h : ∀ j, j ≠ k → (j < lo ∨ hi < j) → g j = g0 j) : g = jm_u (jm_o g0 g lo hi) k (g k) := by
  funext j
  by_cases q : j = k
  · subst q; rw [jm_uk]
  · rw [jm_un _ _ q]
    by_cases q2 : lo ≤ j ∧ j ≤ hi
    · rw [jm_o_in _ _ q2.1 q2.2]
    · rw [jm_o_out _ _ (by omega)]; exact h j q (by omega)
theorem new_of {B M T N i : Nat} {gC : cm_M} {gR : jm_M} (h : b_RR B M T N gC gR) (hi : i < N) (a : Int32) : b_acts B M T N (fun MC MS => vc_X10_standsInNew MC MS (nI i) a gC) (vr_runNew (nI i) a gR) 128 8192 := by
  obtain ⟨hT, hX, ht, hH, hW, hP, hA, hI⟩ := id h
  obtain ⟨hM, hT16, hN, c12, r1, c13, r3, c14, r5, e4, e5, e6, e7, e8, e9, e10⟩ := id hT
  obtain ⟨x, c', r', hx, pc, pr⟩ := act_of (kc := 26) (kr := 12) (Or.inr ⟨rfl, rfl⟩) hT hX hH hA hi a
  rcases hx with ⟨rfl, W, Q, m1, m2, m3, m4, m5⟩ | ⟨rfl, hAK⟩
  · obtain ⟨gd, gj, c0⟩ := gC
    obtain ⟨⟨y1, y2, y3⟩, ⟨hr1, hr2⟩, hk, ⟨u1, u2, u3, u4, u5, u6⟩, hS, hL⟩ := id hH
    obtain ⟨w1, w2, w3, w4, w5, w6⟩ := id m2
    have hwl : W.length ≤ 128 := by have := nd_len (8 * T) W w1 w2; omega
    obtain ⟨m, hm, em⟩ := hX.2.2.1 i hi
    obtain ⟨o, ho, eo⟩ := hr2 m (by omega)
    have ti : (nI i).toNatClampNeg = i := tn_nI (by omega)
    have tm : (nI m).toNatClampNeg = m := tn_nI (by omega)
    obtain ⟨cc, hcc⟩ : ∃ cc, cc = jm_o c0 c' 15 24 := ⟨_, rfl⟩
    obtain ⟨rr, hrr⟩ : ∃ rr, rr = jm_s (jm_o gR r' 13 22) 23 1 := ⟨_, rfl⟩
    have h4 : ∀ i, i < T → ∃ h : Nat, h < M ∧ rr 4 i = nI h := by rw [hrr]; exact hX.2.1
    have h30 : ∀ i, i < 10 → ∃ z : Nat, z < 6 ∧ rr 30 i = nI z := by rw [hrr]; exact hr2
    have f5 : cc 5 = rr 4 := by rw [hcc, hrr]; exact e5
    have f27 : ∀ i, i < 10 → cc 27 i = rr 30 i := by rw [hcc, hrr]; exact hr1
    have f21 : cc 21 0 = nI W.length := by rw [hcc]; exact w3
    have f17 : ∀ j, j < W.length → cc 17 j = nI (W.getD j 0) := by rw [hcc]; exact fun j hj => (w5 j hj).1
    have f15 : ∀ x, x < 128 → cc 15 x = rr 13 x := by rw [hcc, hrr]; exact fun x hx => (m1 x hx).1
    have g17 : rr 17 0 = nI W.length := by rw [hrr]; exact w4
    have g18 : ∀ j, j < W.length → rr 18 j = nI (W.getD j 0) := by rw [hrr]; exact fun j hj => (w5 j hj).2
    have hLL : b_L T gd.2.1 cc rr := by rw [hcc, hrr]; exact hL
    obtain ⟨S, e, l1, l2, l3, l4, l5, l6, l7, l8, l9, l10, l11⟩ := id hLL
    obtain ⟨s, hs⟩ : ∃ s, s = b_str o rr W := ⟨_, rfl⟩
    have hs128 : s ≤ 128 := by rw [hs]; exact Nat.le_trans (str_len o rr W) hwl
    have a6 : ((gd, gj, cc) : cm_M).2.2 6 i = nI m := by show cc 6 i = _; rw [hcc]; show c0 6 i = _; rw [show c0 6 = gR 6 from e6]; exact em
    have a27 : ((gd, gj, cc) : cm_M).2.2 27 m = nI o := by show cc 27 m = _; rw [f27 m (by omega), hrr]; exact eo
    have b6 : rr 6 i = nI m := by rw [hrr]; exact em
    have b30 : rr 30 m = nI o := by rw [hrr]; exact eo
    have b23 : rr 23 0 = 1 := by rw [hrr]; rfl
    have one : (if (1 : Int32) = 0 then (-2000000000 : Int32) else c' 24 0) = c' 24 0 := if_neg (by decide)
    by_cases hcan : b_can s (b_wl (rr 45) S).length S
    · have hS2 : S + b_str o rr W ≤ 2000 := by rw [← hs]; rcases hcan with q | ⟨q1, q2⟩ <;> omega
      have hw2 : (b_wl (rr 45) S).length + b_str o rr W ≤ 40 := by rw [← hs]; rcases hcan with q | ⟨q1, q2⟩ <;> omega
      refine ⟨1, c' 24 0, fun g => ∃ (a2 n2 : Nat → Nat) (c2 : jm_M), n2 0 = gd.2.1 0 ∧ n2 1 = gd.2.1 1 ∧ (∀ k, k ≠ 26 → (k < 37 ∨ 41 < k) → c2 k = cc k) ∧ (∀ x, x < 128 → c2 26 x = b_rsts o rr W 12 x) ∧ b_L T n2 c2 (b_rsts o rr W) ∧ g = cm_s ((a2, n2, gd.2.2), gj, c2) 32 (c2 32 0 + 1), fun g => g = jm_s (b_rsts o rr W) 29 (b_rsts o rr W 29 0 + 1), Or.inr rfl, fun MC MS P hMC hMS hp => pc _ ⟨fun w => absurd w (by decide), fun _ => ⟨vp_in_nI (by omega) (by omega), 128, 8192, by omega, by omega, ?_⟩⟩, fun P hp => pr _ ⟨jj_nb1, ?_⟩, ⟨_, fun _ => Iff.rfl⟩, ?_⟩
      · show vc_X4_keepNew 128 8192 ((jm_o c0 c' 15 24) 6 (nI i).toNatClampNeg) (gd, gj, jm_o c0 c' 15 24) _
        rw [← hcc, ti, show cc 6 i = nI m from a6]
        unfold vc_X4_keepNew
        rw [tm, a27]
        refine ⟨vp_in_nI (by omega) (by omega), nm_e ⟨W.length + 1, ?_⟩⟩
        refine kn1 (gd := gd) (gj := gj) (c := cc) (r := rr) (W := W) hM hT16 h4 h30 f5 f27 w2 hwl f21 f17 ho 128 8192 _ _ ?_ W.length 0 (by omega)
        rw [← hs]
        refine can_c hs128 l9 l1 l10 l2 _ (fun _ => ⟨fun _ => ⟨W.length + 1, ?_⟩, fun w => absurd w (by decide)⟩) (fun w => absurd hcan w)
        refine kn2 (gd := gd) (gj := gj) (c := cc) (r := rr) (W := W) hM hT16 h4 h30 f5 f27 w2 hwl f21 f17 f15 ho l3 hS2 hw2 (by omega) (by omega) _ _ (fun uc us a2 n2 c2 h1 h2 h3 h5 h6 h7 h8 => nm_e ⟨h1, h2, fun w => absurd w (by decide), fun _ => ⟨by omega, by omega, hp _ ⟨a2, n2, c2, h3, h5, h6, h7, h8, rfl⟩⟩⟩) W.length 0 0 0 gd.1 gd.2.1 cc (by omega) rfl rfl (by omega) (by omega) (fun k _ _ => rfl) (fun x hx => ?_) hLL
        show cc 26 x = rr 12 x
        rw [hcc, hrr]; exact y2 x hx
      · rw [← hrr]
        refine nm_e ⟨fun _ => ⟨vp_in_nI (by omega) (by omega), ?_⟩, fun w => absurd (b23.symm.trans w) (by decide)⟩
        rw [ti, b6, tm, b30]
        refine ⟨vp_in_nI (by omega) (by omega), nm_e ⟨W.length + 1, ?_⟩⟩
        refine rn1 (r := rr) (W := W) hM hT16 h4 h30 w2 hwl g17 g18 ho _ _ ?_ W.length 0 (by omega)
        rw [← hs]
        refine can_r hLL hs128 l9 l1 l10 l3 _ _ (fun _ => ⟨W.length + 1, ?_⟩) (fun w => absurd hcan w)
        refine rn2 (r := rr) (W := W) hM hT16 h4 h30 w2 hwl g17 g18 ho l1 l3 hS2 _ _ (nm_e ?_) W.length 0 (by omega)
        have hv : (jm_s (b_rsts o rr W) 29 (b_rsts o rr W 29 0 + 1)) 22 0 = c' 24 0 := by
          show b_rsts o rr W 22 0 = _
          rw [rsts_row _ _ _ (by decide) (by decide), hrr]; exact m5.symm
        rw [hv]
        have := hp _ rfl
        rw [one] at this
        exact this
      · rintro g g2 ⟨a2, n2, c2, q0, q1, qc, q26, qL, rfl⟩ rfl
        have s1 := jm_split (k := 26) (lo := 37) (hi := 41) cc c2 qc
        have s2 := jm_split (k := 12) (lo := 40) (hi := 45) rr (b_rsts o rr W) (fun j h1 h2 => rsts_row _ _ _ h1 h2)
        have z12 : ∀ x, 8 * T ≤ x → b_rsts o rr W 12 x = rr 12 x := rsts_12 W rr w2
        obtain ⟨r2, hr2'⟩ : ∃ r2, r2 = b_rsts o rr W := ⟨_, rfl⟩
        rw [← hr2'] at q26 qL s2 z12 ⊢
        obtain ⟨v12, hv12⟩ : ∃ v, v = r2 12 := ⟨_, rfl⟩
        obtain ⟨v26, hv26⟩ : ∃ v, v = c2 26 := ⟨_, rfl⟩
        rw [← hv12] at s2 q26 z12
        rw [← hv26] at s1 q26
        rw [hcc] at s1
        rw [hrr] at s2 z12
        have qL2 := qL
        have e23 : (jm_s r2 29 (r2 29 0 + 1)) 23 0 = 1 := by rw [s2]; rfl
        have e24 : (cm_s ((a2, n2, gd.2.2), gj, c2) 32 (c2 32 0 + 1)).2.2 24 0 = c' 24 0 := by rw [s1]; rfl
        refine ⟨⟨?_, ?_, ?_, ⟨⟨?_, ?_, ?_⟩, ⟨?_, ?_⟩, ?_, ⟨?_, ?_, ?_, ?_, ?_, ?_⟩, ?_, qL2⟩, ?_, ?_, ⟨?_, ?_⟩, ?_⟩, fun _ => e24, e23⟩
        · rw [s1, s2]; exact hT
        · rw [s2]; exact hX
        · rw [s1, s2]; exact ht
        · rw [s1, s2]; exact y1
        · rw [s1, s2]; exact q26
        · rw [s2]; exact fun i hi hi2 => ⟨(y3 i hi hi2).1, by show v12 i = 0; rw [z12 i hi]; exact (y3 i hi hi2).2⟩
        · rw [s1, s2]; exact hr1
        · rw [s2]; exact hr2
        · rw [s1, s2]; exact hk
        · rw [s1, s2]; exact u1
        · rw [s1, s2]; exact u2
        · rw [s2]; exact u3
        · rw [s1, s2]; exact u4
        · rw [s1, s2]; exact congrArg (fun z => z + 1) u5
        · rw [s1, s2]; exact u6
        · rw [s1, s2]; exact b_S_n (n := gd.2.1) (n' := n2) hS q0 q1
        · rw [s1, s2]; exact hW
        · rw [s1, s2]; exact hP
        · rw [s1]; exact hA.1
        · rw [s1]; exact m2_AK (r := r') hT16 m2
        · rw [s1, s2]; exact hI
    · refine ⟨0, 0, fun g => g = (gd, gj, cc), fun g => g = jm_s rr 23 0, Or.inl rfl, fun MC MS P hMC hMS hp => pc _ ⟨fun w => absurd w (by decide), fun _ => ⟨vp_in_nI (by omega) (by omega), 128, 8192, by omega, by omega, ?_⟩⟩, fun P hp => pr _ ⟨jj_nb1, ?_⟩, ⟨_, fun _ => Iff.rfl⟩, ?_⟩
      · show vc_X4_keepNew 128 8192 ((jm_o c0 c' 15 24) 6 (nI i).toNatClampNeg) (gd, gj, jm_o c0 c' 15 24) _
        rw [← hcc, ti, show cc 6 i = nI m from a6]
        unfold vc_X4_keepNew
        rw [tm, a27]
        refine ⟨vp_in_nI (by omega) (by omega), nm_e ⟨W.length + 1, ?_⟩⟩
        refine kn1 (gd := gd) (gj := gj) (c := cc) (r := rr) (W := W) hM hT16 h4 h30 f5 f27 w2 hwl f21 f17 ho 128 8192 _ _ ?_ W.length 0 (by omega)
        rw [← hs]
        exact can_c hs128 l9 l1 l10 l2 _ (fun w => absurd w hcan) (fun _ => ⟨fun w => absurd rfl w, fun _ => ⟨fun _ => ⟨by omega, by omega, hp _ rfl⟩, fun w => absurd rfl w⟩⟩)
      · rw [← hrr]
        refine nm_e ⟨fun _ => ⟨vp_in_nI (by omega) (by omega), ?_⟩, fun w => absurd (b23.symm.trans w) (by decide)⟩
        rw [ti, b6, tm, b30]
        refine ⟨vp_in_nI (by omega) (by omega), nm_e ⟨W.length + 1, ?_⟩⟩
        refine rn1 (r := rr) (W := W) hM hT16 h4 h30 w2 hwl g17 g18 ho _ _ ?_ W.length 0 (by omega)
        rw [← hs]
        refine can_r hLL hs128 l9 l1 l10 l3 _ _ (fun w => absurd w hcan) (fun _ => nm_e ?_)
        have := hp _ rfl
        rw [if_pos rfl] at this
        exact this
      · rintro g g2 rfl rfl
        rw [hcc, hrr]
        exact ⟨⟨hT, hX, ht, hH, hW, hP, ⟨hA.1, m2_AK (r := r') hT16 m2⟩, hI⟩, fun w => absurd w (by decide), rfl⟩
  · refine ⟨0, 0, fun g => g = b_c gC.1 gC.2.1 gC.2.2 c', fun g => g = jm_s (jm_o gR r' 13 22) 23 0, Or.inl rfl, fun MC MS P hMC hMS hp => pc _ ⟨fun _ => hp _ rfl, fun w => absurd rfl w⟩, fun P hp => pr _ ⟨jj_nb0, nm_e ⟨fun w => absurd rfl w, fun _ => ?_⟩⟩, ⟨_, fun _ => Iff.rfl⟩, ?_⟩
    · have := hp _ rfl
      rw [if_pos rfl] at this
      exact this
    · rintro g g2 rfl rfl
      exact ⟨⟨hT, hX, ht, hH, hW, hP, ⟨hA.1, hAK⟩, hI⟩, fun w => absurd w (by decide), rfl⟩
