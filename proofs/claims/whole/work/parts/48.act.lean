/-- class: what a line does, its tie noted -/
def b_swc (g7 : cm_M) (y1 y8 y9 o : Int32) (Post : Int32 → cm_M → Prop) : Prop := ((o.toInt < 0 ∨ 8 < o.toInt) → (Post 1 g7)) ∧ (o = 0 → (∀ g11 : cm_M, g11 = cm_s g7 24 y8 → (Post 1 g11))) ∧ (o = 1 → (∀ g12 : cm_M, g12 = cm_s g7 24 ((g7.2.2 24 0) + y8) → (Post 1 g12))) ∧ (o = 2 → ((vp_in y9 128) ∧ (∀ g13 : cm_M, g13 = cm_s g7 24 (g7.2.2 15 y9.toNatClampNeg) → (Post 1 g13)))) ∧ (o = 3 → (vc_X0_write y9 g7 (fun (g15 : cm_M) => Post 1 g15))) ∧ (o = 4 → (vc_X0_enter y8 g7 (fun (r16 : Int32) (g17 : cm_M) => (jj_nb r16) ∧ (Post r16 g17)))) ∧ (o = 5 → (((¬ (g7.2.2 24 0) = 0) → (Post 1 g7)) ∧ (((g7.2.2 24 0) = 0) → ((vp_in y1 8) ∧ ((vp_in y1 8) ∧ (∀ g19 : cm_M, g19 = cm_a g7 20 y1 ((g7.2.2 20 y1.toNatClampNeg) + y8) → (Post 1 g19))))))) ∧ (o = 6 → ((((g7.2.2 24 0) < 0) → (Post 0 g7)) ∧ ((¬ (g7.2.2 24 0) < 0) → (Post 1 g7)))) ∧ (o = 7 → ((vp_in y9 128) ∧ (∀ g21 : cm_M, g21 = cm_s g7 24 ((g7.2.2 24 0) + (g7.2.2 15 y9.toNatClampNeg)) → (Post 1 g21)))) ∧ (o = 8 → ((vp_in y9 128) ∧ (∀ g22 : cm_M, g22 = cm_s g7 24 ((g7.2.2 24 0) - (g7.2.2 15 y9.toNatClampNeg)) → (Post 1 g22))))
/-- the class's memory when a tie is noted -/
def b_nt (c : jm_M) (n : Nat) : Option Nat → jm_M
  | none => c
  | some t => jm_s (jm_a c 18 (nI n) (nI t)) 22 (nI (n + 1))
theorem bnt_row (c : jm_M) (n : Nat) (t : Option Nat) {k : Nat} (h : k ≠ 18) (h2 : k ≠ 22) : b_nt c n t k = c k := by
  cases t with
  | none => rfl
  | some t =>
    show jm_s (jm_a c 18 (nI n) (nI t)) 22 (nI (n + 1)) k = c k
    unfold jm_s jm_a
    rw [jm_un _ _ h2, jm_un _ _ h]
theorem line_c {M T N i n z D1 q : Nat} {gd : cm_D} {gj : cm_J} {c0 c r0 : jm_M} (hM : M ≤ 10) (hT16 : T ≤ 16) (hN : N ≤ 40) (hX : b_X M T N r0) (e6 : c0 6 = r0 6) (e8 : c0 8 = r0 8) (e9 : c0 9 = r0 9) (e10 : c0 10 = r0 10) (hi : i < N) (hz : z ≤ 16) (ez : r0 7 i = nI z) (hn : n < z) (hl : b_line T N (r0 8 (16 * i + n)) (r0 9 (16 * i + n)) (r0 10 (16 * i + n))) (hD : D1 < 8) (c23 : c 23 0 = nI (D1 + 1)) (c19 : c 19 D1 = nI i) (c20 : c 20 D1 = nI n) (hq : q < 300) (c22 : c 22 0 = nI q) (P : Int32 → cm_M → Prop) (hp : b_swc (b_c gd gj c0 (b_nt (jm_a c 20 (nI D1) (nI (n + 1))) q (b_tie (r0 8 (16 * i + n)) (r0 6 i).toNatClampNeg (r0 9 (16 * i + n)).toNatClampNeg (r0 6 (r0 9 (16 * i + n)).toNatClampNeg).toNatClampNeg))) (nI D1) (r0 9 (16 * i + n)) (r0 9 (16 * i + n) * 8 + r0 10 (16 * i + n)) (r0 8 (16 * i + n)) P) : vc_X0_doNextLine (b_c gd gj c0 c) P := by
  have t1 : (nI D1).toNatClampNeg = D1 := tn_nI (by omega)
  have iD : vp_in (nI D1) 8 := vp_in_nI (by omega) (by omega)
  have tat : (nI (16 * i + n)).toNatClampNeg = 16 * i + n := tn_nI (by omega)
  have iat : vp_in (nI (16 * i + n)) 640 := vp_in_nI (by omega) (by omega)
  have y3 : nI i * 16 + nI n = nI (16 * i + n) := ij' (k := 16) (by omega)
  have f23 : (b_c gd gj c0 c).2.2 23 0 = nI (D1 + 1) := c23
  have f19 : (b_c gd gj c0 c).2.2 19 D1 = nI i := c19
  have f20 : (b_c gd gj c0 c).2.2 20 D1 = nI n := c20
  unfold vc_X0_doNextLine
  rw [f23, nI_pred]
  refine nm_e ⟨iD, ?_⟩
  rw [t1, f19, f20]
  refine nm_e ⟨iD, ?_⟩
  rw [y3]
  refine nm_e ⟨iD, iD, ?_⟩
  rw [nI_1, bc_a _ _ _ _ _ _ (by omega) (by omega)]
  refine nm_e ?_
  obtain ⟨c1, hc1⟩ : ∃ c1, c1 = jm_a c 20 (nI D1) (nI (n + 1)) := ⟨_, rfl⟩
  rw [← hc1] at hp ⊢
  have g6 : (b_c gd gj c0 c1).2.2 6 = r0 6 := e6
  have g8 : (b_c gd gj c0 c1).2.2 8 = r0 8 := e8
  have g9 : (b_c gd gj c0 c1).2.2 9 = r0 9 := e9
  have g10 : (b_c gd gj c0 c1).2.2 10 = r0 10 := e10
  refine tie_of hT16 hN (fun k hk => by
      obtain ⟨h2, hh, eh⟩ := hX.2.2.1 k hk
      exact ⟨h2, by omega, by rw [g6]; exact eh⟩) hi (by omega) (by rw [g8, g9, g10]; exact hl) _ ?_
  rw [g6, g8, g9]
  have f22 : (b_c gd gj c0 c1).2.2 22 0 = nI q := by rw [hc1]; exact c22
  obtain ⟨tie, htie⟩ : ∃ t, t = b_tie (r0 8 (16 * i + n)) (r0 6 i).toNatClampNeg (r0 9 (16 * i + n)).toNatClampNeg (r0 6 (r0 9 (16 * i + n)).toNatClampNeg).toNatClampNeg := ⟨_, rfl⟩
  rw [← htie] at hp ⊢
  have rest : vp_in (nI (16 * i + n)) 640 ∧ ∀ y8 : Int32, y8 = (b_c gd gj c0 (b_nt c1 q tie)).2.2 9 (nI (16 * i + n)).toNatClampNeg → vp_in (nI (16 * i + n)) 640 ∧ ∀ y9 : Int32, y9 = y8 * 8 + (b_c gd gj c0 (b_nt c1 q tie)).2.2 10 (nI (16 * i + n)).toNatClampNeg → vp_in (nI (16 * i + n)) 640 ∧ b_swc (b_c gd gj c0 (b_nt c1 q tie)) (nI D1) y8 y9 ((b_c gd gj c0 (b_nt c1 q tie)).2.2 8 (nI (16 * i + n)).toNatClampNeg) P := by
    have k8 : (b_c gd gj c0 (b_nt c1 q tie)).2.2 8 = r0 8 := e8
    have k9 : (b_c gd gj c0 (b_nt c1 q tie)).2.2 9 = r0 9 := e9
    have k10 : (b_c gd gj c0 (b_nt c1 q tie)).2.2 10 = r0 10 := e10
    rw [k8, k9, k10, tat]
    exact ⟨iat, nm_e ⟨iat, nm_e ⟨iat, hp⟩⟩⟩
  unfold b_swc at rest
  rw [t1] at rest
  cases tie with
  | none => exact ⟨fun _ => rest, fun w => absurd rfl w⟩
  | some t =>
    have ht := tie_lt hX hM hT16 hN hi hl htie.symm
    refine ⟨fun w => absurd w (n_m1 (by omega)), fun _ => ?_⟩
    rw [f22]
    refine ⟨fun w => absurd w (nI_ge (b := 300) hq (by omega)), fun _ => ⟨vp_in_nI hq (by omega), nm_e (nm_e ?_)⟩⟩
    rw [bc_a _ _ _ _ _ _ (by omega) (by omega)]
    have f22b : (b_c gd gj c0 (jm_a c1 18 (nI q) (b_tn (some t)))).2.2 22 0 = nI q := f22
    rw [f22b, nI_1, bc_s _ _ _ _ _ (by omega) (by omega)]
    exact rest
theorem line_r {M T N i n z D1 k : Nat} {r r0 : jm_M} (hM : M ≤ 10) (hT16 : T ≤ 16) (hN : N ≤ 40) (hi : i < N) (hz : z ≤ 16) (ez : r0 7 i = nI z) (hn : n < z) (hD : D1 < 8) (r20 : r 20 D1 = nI i) (r21 : r 21 D1 = nI n) (hk : k < 300) {kk f : Nat} {Post : Int32 → jm_M → Prop} (A4 : r0 8 (16 * i + n) = 4 → ((¬ nI (D1 + 1) = 8 → ((vp_in (r0 9 (16 * i + n)) 40) ∧ ((vp_in (((10 : Int32) * r0 6 i) + (r0 6 (r0 9 (16 * i + n)).toNatClampNeg)) 100) ∧ (vr_works_123 kk Post f (nI (D1 + 2)) (nI (k + 1)) (jm_o r0 (jm_a (jm_a (jm_a (jm_a r 21 (nI D1) (nI (n + 1))) 14 (((10 : Int32) * r0 6 i) + (r0 6 (r0 9 (16 * i + n)).toNatClampNeg)) (r 14 (((10 : Int32) * r0 6 i) + (r0 6 (r0 9 (16 * i + n)).toNatClampNeg)).toNatClampNeg + 1)) 20 (nI (D1 + 1)) (r0 9 (16 * i + n))) 21 (nI (D1 + 1)) 0) 13 22))))) ∧ (nI (D1 + 1) = 8 → Post 0 (jm_o r0 (jm_a r 21 (nI D1) (nI (n + 1))) 13 22)))) (A5 : r0 8 (16 * i + n) = 5 → ((¬ r 22 0 = 0 → vr_works_123 kk Post f (nI (D1 + 1)) (nI (k + 1)) (jm_o r0 (jm_a (jm_a r 21 (nI D1) (nI (n + 1))) 21 (nI D1) (nI (n + 1) + 0)) 13 22)) ∧ (r 22 0 = 0 → vr_works_123 kk Post f (nI (D1 + 1)) (nI (k + 1)) (jm_o r0 (jm_a (jm_a r 21 (nI D1) (nI (n + 1))) 21 (nI D1) (nI (n + 1) + r0 9 (16 * i + n))) 13 22)))) (A6 : r0 8 (16 * i + n) = 6 → ((0 ≤ r 22 0 → vr_works_123 kk Post f (nI (D1 + 1)) (nI (k + 1)) (jm_o r0 (jm_a r 21 (nI D1) (nI (n + 1))) 13 22)) ∧ (¬ 0 ≤ r 22 0 → Post 0 (jm_o r0 (jm_a r 21 (nI D1) (nI (n + 1))) 13 22)))) (A0 : ¬ r0 8 (16 * i + n) = 4 → ¬ r0 8 (16 * i + n) = 5 → ¬ r0 8 (16 * i + n) = 6 → vr_does (r0 8 (16 * i + n)) (r0 6 i) (r0 9 (16 * i + n)) (r0 10 (16 * i + n)) (jm_o r0 (jm_a r 21 (nI D1) (nI (n + 1))) 13 22) (fun g28 => vr_works_123 kk Post f (nI (D1 + 1)) (nI (k + 1)) g28)) : vr_works_123 kk Post (f + 1) (nI (D1 + 1)) (nI k) (jm_o r0 r 13 22) := by
  have t1 : (nI D1).toNatClampNeg = D1 := tn_nI (by omega)
  have iD : vp_in (nI D1) 8 := vp_in_nI (by omega) (by omega)
  have ti : (nI i).toNatClampNeg = i := tn_nI (by omega)
  have ii : vp_in (nI i) 40 := vp_in_nI (by omega) (by omega)
  have tat : (nI (16 * i + n)).toNatClampNeg = 16 * i + n := tn_nI (by omega)
  have iat : vp_in (nI (16 * i + n)) 640 := vp_in_nI (by omega) (by omega)
  have y3 : (16 : Int32) * nI i + nI n = nI (16 * i + n) := ij (k := 16) (by omega)
  have f20 : jm_o r0 r 13 22 20 D1 = nI i := r20
  have f21 : jm_o r0 r 13 22 21 D1 = nI n := r21
  have f7 : jm_o r0 r 13 22 7 i = nI z := ez
  have h300 : ¬ nI k = 300 := fun w => by have := (nI_eq (b := 300) (by omega) (by omega)).mp w; omega
  unfold vr_works_123
  rw [nI_pred, t1, f20, f21]
  refine ⟨fun w => absurd w (nI_nle (by omega) (by omega)), fun _ => ⟨iD, nm_e ⟨iD, ii, ?_⟩⟩⟩
  rw [ti, f7]
  refine ⟨fun _ => ⟨fun _ => ⟨iD, ?_⟩, fun w => absurd w h300⟩, fun w => absurd (nI_lt hn (by omega)) w⟩
  rw [y3]
  refine nm_e ⟨iD, iD, ?_⟩
  rw [nI_1, nI_1, jo_a _ _ _ _ (by omega) (by omega)]
  refine nm_e ⟨iat, ?_⟩
  rw [tat]
  refine nm_e ⟨ii, ?_⟩
  refine nm_e ⟨iat, ?_⟩
  have s8 : jm_o r0 (jm_a r 21 (nI D1) (nI (n + 1))) 13 22 8 (16 * i + n) = r0 8 (16 * i + n) := rfl
  have s9 : jm_o r0 (jm_a r 21 (nI D1) (nI (n + 1))) 13 22 9 (16 * i + n) = r0 9 (16 * i + n) := rfl
  have s10 : jm_o r0 (jm_a r 21 (nI D1) (nI (n + 1))) 13 22 10 (16 * i + n) = r0 10 (16 * i + n) := rfl
  have s6 : jm_o r0 (jm_a r 21 (nI D1) (nI (n + 1))) 13 22 6 = r0 6 := rfl
  have s22 : jm_o r0 (jm_a r 21 (nI D1) (nI (n + 1))) 13 22 22 0 = r 22 0 := rfl
  have s21 : jm_o r0 (jm_a r 21 (nI D1) (nI (n + 1))) 13 22 21 D1 = nI (n + 1) := by
    show upd (r 21) (nI D1).toNatClampNeg (nI (n + 1)) D1 = _
    rw [t1, pk_us]
  rw [s8, s9, s10, s6, s22, s21]
  refine ⟨fun w4 => ⟨iat, fun w5 => ⟨iat, fun w6 => ⟨iat, iat, A0 w4 w5 w6⟩, fun w6 => A6 w6⟩, fun w5 => ⟨iD, fun w => ⟨iD, nm_e ?_⟩, fun w => ⟨iD, nm_e ?_⟩⟩⟩, fun w4 => ⟨fun w => ?_, fun w => (A4 w4).2 w⟩⟩
  · rw [jo_a _ _ _ _ (by omega) (by omega)]; exact (A5 w5).1 w
  · rw [jo_a _ _ _ _ (by omega) (by omega)]; exact (A5 w5).2 w
  · obtain ⟨b1, b2, b3⟩ := (A4 w4).1 w
    have hD7 : D1 + 1 < 8 := by
      rcases Nat.lt_or_ge (D1 + 1) 8 with v | v
      · exact v
      · exact absurd (show nI (D1 + 1) = 8 by rw [show D1 + 1 = 8 by omega]; rfl) w
    refine ⟨b1, b2, b2, nm_e ⟨vp_in_nI hD7 (by omega), nm_e ⟨vp_in_nI hD7 (by omega), nm_e ?_⟩⟩⟩
    rw [jo_a _ _ _ _ (by omega) (by omega), jo_a _ _ _ _ (by omega) (by omega), jo_a _ _ _ _ (by omega) (by omega), nI_1]
    exact b3
