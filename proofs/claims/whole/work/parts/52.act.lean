/-- reference: an act begins -/
theorem wk1 {r0 r : jm_M} {kk : Nat} (hkk : kk = 11 ∨ kk = 12) (x1 x2 : Int32) : ∀ d i (u v : Nat → Int32), i + d = 128 → (∀ j, j < i → u j = r0 kk j ∧ v j = 0) → ∃ u' v' : Nat → Int32, (∀ j, j < 128 → u' j = r0 kk j ∧ v' j = 0) ∧ ∀ (K : jm_M → Prop) (Post : Int32 → jm_M → Prop), K (jm_o r0 (jm_u (jm_u r 13 u') 19 v') 13 22) → vr_works_3 kk x1 x2 K Post (d + 1) (nI i) (jm_o r0 (jm_u (jm_u r 13 u) 19 v) 13 22)
  | 0, i, u, v, hi, hu => by
    obtain rfl : i = 128 := by omega
    exact ⟨u, v, hu, fun K Post hp => ⟨fun _ => hp, fun w => absurd (by decide) w⟩⟩
  | d + 1, i, u, v, hi, hu => by
    have t1 : (nI i).toNatClampNeg = i := tn_nI (by omega)
    have i1 : vp_in (nI i) 128 := vp_in_nI (by omega) (by omega)
    obtain ⟨u', v', h1, h2⟩ := wk1 (r0 := r0) (r := r) hkk x1 x2 d (i + 1) (upd u i (r0 kk i)) (upd v i 0) (by omega) (fun j hj => by
      by_cases q : j = i
      · subst q; rw [pk_us, pk_us]; exact ⟨rfl, rfl⟩
      · rw [pk_un q, pk_un q]; exact hu j (by omega))
    refine ⟨u', v', h1, fun K Post hp => ?_⟩
    unfold vr_works_3
    have fk : (jm_o r0 (jm_u (jm_u r 13 u) 19 v) 13 22) kk i = r0 kk i := by rcases hkk with rfl | rfl <;> rfl
    rw [t1, fk]
    refine ⟨fun w => absurd w (nI_ge (b := 128) (by omega) (by omega)), fun _ => ⟨i1, i1, nm_e ⟨i1, nm_e ?_⟩⟩⟩
    rw [jo_a _ _ _ _ (by omega) (by omega), jo_a _ _ _ _ (by omega) (by omega), nI_1]
    have e : jm_a (jm_a (jm_u (jm_u r 13 u) 19 v) 13 (nI i) (r0 kk i)) 19 (nI i) 0 = jm_u (jm_u r 13 (upd u i (r0 kk i))) 19 (upd v i 0) := by
      funext x
      by_cases w : x = 19
      · subst w; show upd v (nI i).toNatClampNeg 0 = upd v i 0; rw [t1]
      · by_cases w2 : x = 13
        · subst w2; show upd u (nI i).toNatClampNeg (r0 kk i) = upd u i (r0 kk i); rw [t1]
        · unfold jm_a
          rw [jm_un _ _ w, jm_un _ _ w2, jm_un _ _ w, jm_un _ _ w2, jm_un _ _ w, jm_un _ _ w2]
    rw [e]
    exact h2 K Post hp
theorem wk2 {r0 r : jm_M} {kk : Nat} (x1 x2 : Int32) : ∀ d i (u : Nat → Int32), i + d = 100 → (∀ j, j < i → u j = 0) → ∃ u' : Nat → Int32, (∀ j, j < 100 → u' j = 0) ∧ ∀ (K : jm_M → Prop) (Post : Int32 → jm_M → Prop), K (jm_o r0 (jm_u r 14 u') 13 22) → vr_works_39 kk x1 x2 K Post (d + 1) (nI i) (jm_o r0 (jm_u r 14 u) 13 22)
  | 0, i, u, hi, hu => by
    obtain rfl : i = 100 := by omega
    exact ⟨u, hu, fun K Post hp => ⟨fun _ => hp, fun w => absurd (by decide) w⟩⟩
  | d + 1, i, u, hi, hu => by
    have t1 : (nI i).toNatClampNeg = i := tn_nI (by omega)
    have i1 : vp_in (nI i) 100 := vp_in_nI (by omega) (by omega)
    obtain ⟨u', h1, h2⟩ := wk2 (r0 := r0) (r := r) (kk := kk) x1 x2 d (i + 1) (upd u i 0) (by omega) (fun j hj => by
      by_cases q : j = i
      · subst q; rw [pk_us]
      · rw [pk_un q]; exact hu j (by omega))
    refine ⟨u', h1, fun K Post hp => ?_⟩
    unfold vr_works_39
    refine ⟨fun w => absurd w (nI_ge (b := 100) (by omega) (by omega)), fun _ => ⟨i1, nm_e ?_⟩⟩
    rw [jo_a _ _ _ _ (by omega) (by omega), nI_1]
    have e : jm_a (jm_u r 14 u) 14 (nI i) 0 = jm_u r 14 (upd u i 0) := by
      show jm_u (jm_u r 14 u) 14 (upd u (nI i).toNatClampNeg 0) = _
      rw [jm_uu, t1]
    rw [e]
    exact h2 K Post hp
theorem wk3 {r0 r : jm_M} {kk : Nat} (x1 x2 : Int32) : ∀ d i (u v : Nat → Int32), i + d = 160 → (∀ j, j < i → u j = 0 ∧ v j = 0) → ∃ u' v' : Nat → Int32, (∀ j, j < 160 → u' j = 0 ∧ v' j = 0) ∧ ∀ (K : jm_M → Prop) (Post : Int32 → jm_M → Prop), K (jm_o r0 (jm_u (jm_u r 15 u') 16 v') 13 22) → vr_works_63 kk x1 x2 K Post (d + 1) (nI i) (jm_o r0 (jm_u (jm_u r 15 u) 16 v) 13 22)
  | 0, i, u, v, hi, hu => by
    obtain rfl : i = 160 := by omega
    exact ⟨u, v, hu, fun K Post hp => ⟨fun _ => hp, fun w => absurd (by decide) w⟩⟩
  | d + 1, i, u, v, hi, hu => by
    have t1 : (nI i).toNatClampNeg = i := tn_nI (by omega)
    have i1 : vp_in (nI i) 160 := vp_in_nI (by omega) (by omega)
    obtain ⟨u', v', h1, h2⟩ := wk3 (r0 := r0) (r := r) (kk := kk) x1 x2 d (i + 1) (upd u i 0) (upd v i 0) (by omega) (fun j hj => by
      by_cases q : j = i
      · subst q; rw [pk_us, pk_us]; exact ⟨rfl, rfl⟩
      · rw [pk_un q, pk_un q]; exact hu j (by omega))
    refine ⟨u', v', h1, fun K Post hp => ?_⟩
    unfold vr_works_63
    refine ⟨fun w => absurd w (nI_ge (b := 160) (by omega) (by omega)), fun _ => ⟨i1, nm_e ⟨i1, nm_e ?_⟩⟩⟩
    rw [jo_a _ _ _ _ (by omega) (by omega), jo_a _ _ _ _ (by omega) (by omega), nI_1]
    have e : jm_a (jm_a (jm_u (jm_u r 15 u) 16 v) 15 (nI i) 0) 16 (nI i) 0 = jm_u (jm_u r 15 (upd u i 0)) 16 (upd v i 0) := by
      funext x
      by_cases w : x = 16
      · subst w; show upd v (nI i).toNatClampNeg 0 = upd v i 0; rw [t1]
      · by_cases w2 : x = 15
        · subst w2; show upd u (nI i).toNatClampNeg 0 = upd u i 0; rw [t1]
        · unfold jm_a
          rw [jm_un _ _ w, jm_un _ _ w2, jm_un _ _ w, jm_un _ _ w2, jm_un _ _ w, jm_un _ _ w2]
    rw [e]
    exact h2 K Post hp
theorem begin_r {r0 : jm_M} {kk : Nat} (hkk : kk = 11 ∨ kk = 12) (a : Int32) (i : Nat) : ∃ r : jm_M, (∀ j, j < 128 → r 13 j = r0 kk j ∧ r 19 j = 0) ∧ (∀ j, j < 100 → r 14 j = 0) ∧ (∀ j, j < 160 → r 15 j = 0 ∧ r 16 j = 0) ∧ r 17 0 = 0 ∧ r 22 0 = a ∧ r 20 0 = nI i ∧ r 21 0 = nI 0 ∧ ∀ (P : Int32 → jm_M → Prop), (∃ n : Nat, vr_works_123 kk P n 1 0 (jm_o r0 r 13 22)) → vr_works kk (nI i) a r0 P := by
  obtain ⟨u1, v1, a1, b1⟩ := wk1 (r0 := r0) (r := r0) hkk (nI i) a 128 0 (r0 13) (r0 19) (by omega) (fun j hj => absurd hj (Nat.not_lt_zero j))
  obtain ⟨u2, a2, b2⟩ := wk2 (r0 := r0) (r := jm_u (jm_u r0 13 u1) 19 v1) (kk := kk) (nI i) a 100 0 (r0 14) (by omega) (fun j hj => absurd hj (Nat.not_lt_zero j))
  obtain ⟨u3, v3, a3, b3⟩ := wk3 (r0 := r0) (r := jm_u (jm_u (jm_u r0 13 u1) 19 v1) 14 u2) (kk := kk) (nI i) a 160 0 (r0 15) (r0 16) (by omega) (fun j hj => absurd hj (Nat.not_lt_zero j))
  refine ⟨jm_a (jm_a (jm_s (jm_s (jm_u (jm_u (jm_u (jm_u (jm_u r0 13 u1) 19 v1) 14 u2) 15 u3) 16 v3) 17 0) 22 a) 20 0 (nI i)) 21 0 0, a1, a2, a3, rfl, rfl, rfl, rfl, fun P hv => ⟨129, ?_⟩⟩
  have e1 : jm_u (jm_u r0 13 (r0 13)) 19 (r0 19) = r0 := by
    have : r0 19 = (jm_u r0 13 (r0 13)) 19 := rfl
    rw [this, jm_u0, jm_u0]
  rw [e1, jo_same] at b1
  refine b1 _ _ ⟨101, ?_⟩
  have e2 : jm_u (jm_u (jm_u r0 13 u1) 19 v1) 14 (r0 14) = jm_u (jm_u r0 13 u1) 19 v1 := by
    have : r0 14 = (jm_u (jm_u r0 13 u1) 19 v1) 14 := rfl
    rw [this, jm_u0]
  rw [e2] at b2
  refine b2 _ _ ⟨161, ?_⟩
  have e3 : jm_u (jm_u (jm_u (jm_u (jm_u r0 13 u1) 19 v1) 14 u2) 15 (r0 15)) 16 (r0 16) = jm_u (jm_u (jm_u r0 13 u1) 19 v1) 14 u2 := by
    have h15 : r0 15 = (jm_u (jm_u (jm_u r0 13 u1) 19 v1) 14 u2) 15 := rfl
    rw [h15, jm_u0]
    have h16 : r0 16 = (jm_u (jm_u (jm_u r0 13 u1) 19 v1) 14 u2) 16 := rfl
    rw [h16, jm_u0]
  rw [e3] at b3
  refine b3 _ _ (nm_e (nm_e (nm_e (nm_e ?_))))
  rw [jo_s _ _ _ (by omega) (by omega), jo_s _ _ _ (by omega) (by omega), jo_a _ _ _ _ (by omega) (by omega), jo_a _ _ _ _ (by omega) (by omega)]
  exact hv
/-- an act, whole: both do the same -/
theorem act_of {B M T N i : Nat} {gC : cm_M} {gR : jm_M} {kc kr : Nat} (hk : (kc = 25 ∧ kr = 11) ∨ (kc = 26 ∧ kr = 12)) (hT : b_T M T N gC.2.2 gR) (hX : b_X M T N gR) (hH : b_H B T gC.1.2.1 gC.2.2 gR) (hA : b_A gC.2.2) (hi : i < N) (a : Int32) : ∃ (x : Int32) (c' r' : jm_M), ((x = 1 ∧ ∃ W Q : List Nat, b_M T N (gR kr) W Q 0 300 c' r') ∨ (x = 0 ∧ b_AK c')) ∧ (∀ P : Int32 → cm_M → Prop, P x (b_c gC.1 gC.2.1 gC.2.2 c') → vc_X0_perform kc (nI i) a gC P) ∧ (∀ P : Int32 → jm_M → Prop, P x (jm_o gR r' 13 22) → vr_works kr (nI i) a gR P) := by
  obtain ⟨gd, gj, c0⟩ := gC
  obtain ⟨hM, hT16, hN, c12, r1, c13, r3, c14, r5, e4, e5, e6, e7, e8, e9, e10⟩ := id hT
  obtain ⟨c, c1, c2, c3, c4, c5, c6, c7, c8, c9⟩ := begin_c (gd := gd) (gj := gj) (kk := kc) (by rcases hk with ⟨q, -⟩ | ⟨q, -⟩ <;> simp [q]) hA.2 a i (by omega)
  obtain ⟨r, q1, q2, q3, q4, q5, q6, q7, q8⟩ := begin_r (r0 := gR) (kk := kr) (by rcases hk with ⟨-, q⟩ | ⟨-, q⟩ <;> simp [q]) a i
  have hcell : ∀ j, j < 128 → c0 kc j = gR kr j := by
    rcases hk with ⟨rfl, rfl⟩ | ⟨rfl, rfl⟩
    · exact hH.1.1
    · exact hH.1.2.1
  have hm : b_M T N (gR kr) [] [] 1 0 c r := by
    refine ⟨fun j hj => ⟨by rw [c1 j hj, (q1 j hj).1]; exact hcell j hj, fun _ => (q1 j hj).1⟩, ⟨by simp, fun z hz => absurd hz List.not_mem_nil, c3, q4, fun j hj => absurd hj (Nat.not_lt_zero j), fun z hz => ⟨by rw [c2 z hz]; simp, by rw [(q1 z hz).2]; simp⟩⟩, ⟨Nat.le_refl 0, c4, fun j hj => absurd hj (Nat.not_lt_zero j), fun p hp => absurd hp List.not_mem_nil, fun p hp => by rw [q2 p hp]; rfl, fun p hp => by rw [(q3 p hp).1]; rfl, fun p hp => by rw [(q3 p hp).2]; rfl⟩, ⟨by omega, c5, fun j hj => ?_⟩, by rw [c6, q5]⟩
    obtain rfl : j = 0 := by omega
    exact ⟨i, 0, hi, by omega, c7, q6, c8, q7⟩
  obtain ⟨x, c', r', a1, ⟨n1, a2⟩, n2, a3⟩ := go_act (gd := gd) (gj := gj) hM hT16 hN hX e6 e7 e8 e9 e10 300 0 c r [] [] 1 (by omega) hm
  exact ⟨x, c', r', a1, fun P hp => c9 P ⟨n1, a2 kc P hp⟩, fun P hp => q8 P ⟨n2, a3 kr P hp⟩⟩
