/-! run, act, beside -/
def b_ok2 (B mc ms : Nat) (vc : Nat → Nat → (Int32 → cm_M → Prop) → Prop) (vr : (Int32 → jm_M → Prop) → Prop) : Prop := ∃ (r : Int32) (SC : cm_M → Prop) (SR : jm_M → Prop), (∀ MC MS (P : Int32 → cm_M → Prop), mc ≤ MC → ms ≤ MS → (∀ g, SC g → P r g) → vc MC MS P) ∧ (∀ P : Int32 → jm_M → Prop, (∀ g, SR g → P r g) → vr P) ∧ ∀ g g2, SC g → SR g2 → b_R B g g2
theorem op_run {B : Nat} {gC : cm_M} {gR : jm_M} (h : b_R B gC gR) (hB : B ≤ 512) (a b : Int32) : b_ok2 (B + 1) 2 2048 (fun MC MS => vc_X10_run MC MS a b gC) (vr_run a b gR) := by
  obtain ⟨M, T, N, hh⟩ := id h
  obtain ⟨hT, hX, ht, hH, hW, hP, hA, hI⟩ := id hh
  obtain ⟨hM, hT16, hN, c12, r1, c13, r3, c14, r5, e4, e5, e6, e7, e8, e9, e10⟩ := id hT
  rcases ix_cases a (n := N) (by omega) with h1 | ⟨i, hi, rfl, h1⟩
  · refine ⟨-1, fun g => g = gC, fun g => g = gR, fun MC MS P _ _ hp => ?_, fun P hp => ?_, fun g g2 e1 e2 => by rw [e1, e2]; exact b_R_mono (Nat.le_succ B) h⟩
    · show vc_X10_run MC MS a b gC P
      unfold vc_X10_run
      rw [vc_hasRoutine_iff c14, if_pos h1]
      exact ⟨fun w => absurd rfl w, fun _ => hp _ rfl⟩
    · unfold vr_run
      rw [vr_isRoutine_iff hN r5, if_pos h1]
      exact ⟨fun _ => hp _ rfl, fun w => absurd rfl w⟩
  · obtain ⟨x, v, SC, SR, hx, pc, pr, ⟨g0, hg0⟩, rel⟩ := old_of hh hi hB b
    refine ⟨if x = 0 then -2000000000 else v, SC, SR, fun MC MS P hMC hMS hp => ?_, fun P hp => ?_, fun g g2 e1 e2 => b_RR_R (rel g g2 e1 e2).1⟩
    · show vc_X10_run MC MS (nI i) b gC P
      unfold vc_X10_run
      rw [vc_hasRoutine_iff c14, if_neg h1]
      refine ⟨fun _ => ⟨2, 2048, by omega, by omega, pc 2 2048 _ (Nat.le_refl _) (Nat.le_refl _) (fun g hg => ⟨fun w => ⟨by omega, by omega, ?_⟩, fun w => ⟨by omega, by omega, ?_⟩⟩)⟩, fun w => absurd w (by decide)⟩
      · have := hp g hg; rw [if_pos w] at this; exact this
      · have := hp g hg
        rw [if_neg w] at this
        have x1 : x = 1 := by rcases hx with q | q; exact absurd q w; exact q
        rw [(rel g g0 hg ((hg0 g0).mpr rfl)).2.1 x1]; exact this
    · unfold vr_run
      rw [vr_isRoutine_iff hN r5, if_neg h1]
      exact ⟨fun w => absurd w (by decide), fun _ => pr _ hp⟩
theorem op_act {B : Nat} {gC : cm_M} {gR : jm_M} (h : b_R B gC gR) (a b : Int32) : b_ok2 B 128 8192 (fun MC MS => vc_X10_act MC MS a b gC) (vr_act a b gR) := by
  obtain ⟨M, T, N, hh⟩ := id h
  obtain ⟨hT, hX, ht, hH, hW, hP, hA, hI⟩ := id hh
  obtain ⟨hM, hT16, hN, c12, r1, c13, r3, c14, r5, e4, e5, e6, e7, e8, e9, e10⟩ := id hT
  rcases ix_cases a (n := N) (by omega) with h1 | ⟨i, hi, rfl, h1⟩
  · refine ⟨-1, fun g => g = gC, fun g => g = gR, fun MC MS P _ _ hp => ?_, fun P hp => ?_, fun g g2 e1 e2 => by rw [e1, e2]; exact h⟩
    · show vc_X10_act MC MS a b gC P
      unfold vc_X10_act
      rw [vc_hasRoutine_iff c14, if_pos h1]
      exact ⟨fun w => absurd rfl w, fun _ => hp _ rfl⟩
    · unfold vr_act
      rw [vr_isRoutine_iff hN r5, if_pos h1]
      exact ⟨fun _ => hp _ rfl, fun w => absurd rfl w⟩
  · obtain ⟨x, v, SC, SR, hx, pc, pr, ⟨g0, hg0⟩, rel⟩ := new_of hh hi b
    refine ⟨if x = 0 then -2000000000 else v, SC, SR, fun MC MS P hMC hMS hp => ?_, fun P hp => ?_, fun g g2 e1 e2 => b_RR_R (rel g g2 e1 e2).1⟩
    · show vc_X10_act MC MS (nI i) b gC P
      unfold vc_X10_act
      rw [vc_hasRoutine_iff c14, if_neg h1]
      refine ⟨fun _ => ⟨128, 8192, by omega, by omega, pc 128 8192 _ (Nat.le_refl _) (Nat.le_refl _) (fun g hg => ⟨fun w => ⟨by omega, by omega, ?_⟩, fun w => ⟨by omega, by omega, ?_⟩⟩)⟩, fun w => absurd w (by decide)⟩
      · have := hp g hg; rw [if_pos w] at this; exact this
      · have := hp g hg
        rw [if_neg w] at this
        have x1 : x = 1 := by rcases hx with q | q; exact absurd q w; exact q
        rw [(rel g g0 hg ((hg0 g0).mpr rfl)).2.1 x1]; exact this
    · unfold vr_act
      rw [vr_isRoutine_iff hN r5, if_neg h1]
      exact ⟨fun w => absurd w (by decide), fun _ => pr _ hp⟩
theorem upd_c {f g : Nat → Int32} {n k : Nat} {v w : Int32} (h : ∀ i, i < n → f i = g i) (hv : v = w) : ∀ i, i < n → upd f k v i = upd g k w i := by
  intro i hi
  by_cases q : i = k
  · rw [q, pk_us, pk_us]; exact hv
  · rw [pk_un q, pk_un q]; exact h i hi
/-- class and reference after an act beside that was alike -/
theorem like_of {B M T N : Nat} {gC : cm_M} {gR : jm_M} (h : b_RR B M T N gC gR) : b_R B (cm_s gC 33 (gC.2.2 33 0 + 1)) (jm_s gR 57 (gR 57 0 + 1)) := by
  obtain ⟨hT, hX, ht, ⟨hy, hr, hk, ⟨u1, u2, u3, u4, u5, u6⟩, hS, hL⟩, hW, hP, hA, hI⟩ := h
  exact ⟨M, T, N, hT, hX, ht, ⟨hy, hr, hk, ⟨u1, u2, u3, u4, u5, congrArg (fun z => z + 1) u6⟩, hS, hL⟩, hW, hP, hA, hI⟩
theorem note_of {B M T N : Nat} {gC : cm_M} {gR : jm_M} (h : b_RR B M T N gC gR) (a b p q : Int32) : ∃ (gC' : cm_M) (gR' : jm_M), b_R B gC' gR' ∧ (∀ K : cm_M → Prop, K gC' → vc_X4_noteUnlike a b p q gC (fun g16 => ∀ g17 : cm_M, g17 = cm_s g16 33 ((g16.2.2 33 0) + 1) → K g17)) ∧ (∀ K : jm_M → Prop, K gR' → ((¬ ((jm_s gR 57 (gR 57 0 + 1)) 58 0) = 0) → K (jm_s gR 57 (gR 57 0 + 1))) ∧ ((((jm_s gR 57 (gR 57 0 + 1)) 58 0) = 0) → (∀ g11 : jm_M, g11 = jm_s (jm_s gR 57 (gR 57 0 + 1)) 58 1 → (∀ g12 : jm_M, g12 = jm_a g11 59 0 ((g11 57 0) - 1) → (∀ g13 : jm_M, g13 = jm_a g12 59 1 a → (∀ g14 : jm_M, g14 = jm_a g13 59 2 b → (∀ g15 : jm_M, g15 = jm_a g14 59 3 p → (∀ g16 : jm_M, g16 = jm_a g15 59 4 q → K g16)))))))) := by
  obtain ⟨hT, hX, ht, ⟨hy, hr, hk, ⟨u1, u2, u3, u4, u5, u6⟩, hS, hL⟩, hW, hP, hA, hI⟩ := id h
  by_cases h0 : gR 58 0 = 0
  · have c0 : gC.2.2 30 0 = 0 := u2.trans h0
    refine ⟨cm_s (cm_a (cm_a (cm_a (cm_a (cm_a (cm_s gC 30 1) 29 0 (gC.2.2 33 0)) 29 1 a) 29 2 b) 29 3 p) 29 4 q) 33 (gC.2.2 33 0 + 1), jm_a (jm_a (jm_a (jm_a (jm_a (jm_s (jm_s gR 57 (gR 57 0 + 1)) 58 1) 59 0 (gR 57 0 + 1 - 1)) 59 1 a) 59 2 b) 59 3 p) 59 4 q, ⟨M, T, N, hT, hX, ht, ⟨hy, hr, hk, ⟨?_, rfl, Or.inr rfl, u4, u5, congrArg (fun z => z + 1) u6⟩, hS, hL⟩, hW, hP, hA, hI⟩, fun K hK => ⟨fun _ => nm_e (nm_e (nm_e (nm_e (nm_e (nm_e (nm_e hK)))))), fun w => absurd c0 w⟩, fun K hK => ⟨fun w => absurd h0 w, fun _ => nm_e (nm_e (nm_e (nm_e (nm_e (nm_e hK)))))⟩⟩
    show ∀ i, i < 5 → upd (upd (upd (upd (upd (gC.2.2 29) (0 : Int32).toNatClampNeg (gC.2.2 33 0)) (1 : Int32).toNatClampNeg a) (2 : Int32).toNatClampNeg b) (3 : Int32).toNatClampNeg p) (4 : Int32).toNatClampNeg q i = upd (upd (upd (upd (upd (gR 59) (0 : Int32).toNatClampNeg (gR 57 0 + 1 - 1)) (1 : Int32).toNatClampNeg a) (2 : Int32).toNatClampNeg b) (3 : Int32).toNatClampNeg p) (4 : Int32).toNatClampNeg q i
    exact upd_c (upd_c (upd_c (upd_c (upd_c u1 (by rw [Int32.add_sub_cancel]; exact u6)) rfl) rfl) rfl) rfl
  · have c0 : ¬ gC.2.2 30 0 = 0 := fun w => h0 (u2.symm.trans w)
    exact ⟨_, _, like_of h, fun K hK => ⟨fun w => absurd w c0, fun _ => nm_e hK⟩, fun K hK => ⟨fun _ => hK, fun w => absurd w h0⟩⟩
def b_sim2 (B mc ms : Nat) (vc : Nat → Nat → (Int32 → cm_M → Prop) → Prop) (vr : (Int32 → jm_M → Prop) → Prop) : Prop := ∀ MC MS (P : Int32 → cm_M → Prop), mc ≤ MC → ms ≤ MS → (∀ r g, (∀ P2 : Int32 → jm_M → Prop, (∀ g2, b_R B g g2 → P2 r g2) → vr P2) → P r g) → vc MC MS P
theorem op_beside {B : Nat} {gC : cm_M} {gR : jm_M} (h : b_R B gC gR) (hB : B ≤ 512) (a b : Int32) : b_sim2 (B + 1) 130 10240 (fun MC MS => vc_X10_beside MC MS a b gC) (vr_beside a b gR) := by
  obtain ⟨M, T, N, hh⟩ := id h
  obtain ⟨hT, hX, ht, hH, hW, hP, hA, hI⟩ := id hh
  obtain ⟨hM, hT16, hN, c12, r1, c13, r3, c14, r5, e4, e5, e6, e7, e8, e9, e10⟩ := id hT
  intro MC MS P hMC hMS hp
  show vc_X10_beside MC MS a b gC P
  unfold vc_X10_beside
  rw [vc_hasRoutine_iff c14]
  rcases ix_cases a (n := N) (by omega) with h1 | ⟨i, hi, rfl, h1⟩
  · rw [if_pos h1]
    refine ⟨fun w => absurd rfl w, fun _ => hp _ _ (fun P2 hp2 => ?_)⟩
    unfold vr_beside
    rw [vr_isRoutine_iff hN r5, if_pos h1]
    exact ⟨fun w => absurd rfl w, fun _ => hp2 _ (b_R_mono (Nat.le_succ B) h)⟩
  · rw [if_neg h1]
    obtain ⟨x, v, SC, SR, hx, pc, pr, ⟨g0, hg0⟩, rel⟩ := old_of hh hi hB b
    refine ⟨fun _ => ⟨2, 2048, by omega, by omega, pc 2 2048 _ (Nat.le_refl _) (Nat.le_refl _) (fun g4 hg4 => ?_)⟩, fun w => absurd w (by decide)⟩
    obtain ⟨rel1, rel2, rel3⟩ := rel g4 g0 hg4 ((hg0 g0).mpr rfl)
    obtain ⟨x2, v2, SC2, SR2, hx2, pc2, pr2, ⟨g1, hg1⟩, rl⟩ := new_of rel1 hi b
    have hg1' : SR2 g1 := (hg1 g1).mpr rfl
    obtain ⟨p, ep⟩ : ∃ p, p = (if x = 0 then (-2000000000 : Int32) else v) := ⟨_, rfl⟩
    obtain ⟨q, eq⟩ : ∃ q, q = (if x2 = 0 then (-2000000000 : Int32) else v2) := ⟨_, rfl⟩
    rw [← ep] at pr
    rw [← eq] at pr2
    have ref : g1 23 0 = x2 → ∀ P2 : Int32 → jm_M → Prop, (((¬ x = x2) → (((¬ ((jm_s g1 57 (g1 57 0 + 1)) 58 0) = 0) → (P2 0 (jm_s g1 57 (g1 57 0 + 1)))) ∧ ((((jm_s g1 57 (g1 57 0 + 1)) 58 0) = 0) → (∀ g11 : jm_M, g11 = jm_s (jm_s g1 57 (g1 57 0 + 1)) 58 1 → (∀ g12 : jm_M, g12 = jm_a g11 59 0 ((g11 57 0) - 1) → (∀ g13 : jm_M, g13 = jm_a g12 59 1 (nI i) → (∀ g14 : jm_M, g14 = jm_a g13 59 2 b → (∀ g15 : jm_M, g15 = jm_a g14 59 3 p → (∀ g16 : jm_M, g16 = jm_a g15 59 4 q → (P2 0 g16)))))))))) ∧ ((x = x2) → (((p = q) → (P2 1 (jm_s g1 57 (g1 57 0 + 1)))) ∧ ((¬ p = q) → (((¬ x2 = 0) → (((¬ ((jm_s g1 57 (g1 57 0 + 1)) 58 0) = 0) → (P2 0 (jm_s g1 57 (g1 57 0 + 1)))) ∧ ((((jm_s g1 57 (g1 57 0 + 1)) 58 0) = 0) → (∀ g20 : jm_M, g20 = jm_s (jm_s g1 57 (g1 57 0 + 1)) 58 1 → (∀ g21 : jm_M, g21 = jm_a g20 59 0 ((g20 57 0) - 1) → (∀ g22 : jm_M, g22 = jm_a g21 59 1 (nI i) → (∀ g23 : jm_M, g23 = jm_a g22 59 2 b → (∀ g24 : jm_M, g24 = jm_a g23 59 3 p → (∀ g25 : jm_M, g25 = jm_a g24 59 4 q → (P2 0 g25)))))))))) ∧ ((x2 = 0) → (P2 1 (jm_s g1 57 (g1 57 0 + 1))))))))) → vr_beside (nI i) b gR P2 := by
      intro h23 P2 hq
      unfold vr_beside
      rw [vr_isRoutine_iff hN r5, if_neg h1]
      refine ⟨fun _ => pr _ (fun g2 hg2 => ?_), fun w => absurd w (by decide)⟩
      rw [(hg0 g2).mp hg2]
      intro y5 hy5
      rw [rel3] at hy5
      subst hy5
      refine pr2 _ (fun g7 hg7 => ?_)
      rw [(hg1 g7).mp hg7]
      refine nm_e ?_
      have e23 : (jm_s g1 57 (g1 57 0 + 1)) 23 0 = x2 := h23
      rw [e23]
      exact hq
    have dif : ∀ g9, SC2 g9 → (¬ x = x2 ∨ (x = x2 ∧ ¬ p = q ∧ ¬ x2 = 0)) → ∀ K : cm_M → Prop, (∀ g17, (∀ P2 : Int32 → jm_M → Prop, (∀ g2, b_R (B + 1) g17 g2 → P2 0 g2) → vr_beside (nI i) b gR P2) → K g17) → vc_X4_noteUnlike (nI i) b p q g9 (fun g16 => ∀ g17 : cm_M, g17 = cm_s g16 33 ((g16.2.2 33 0) + 1) → K g17) := by
      intro g9 hg9 hd K hK
      obtain ⟨rl1, rl2, rl3⟩ := rl g9 g1 hg9 hg1'
      obtain ⟨gC', gR', hR, nc, nr⟩ := note_of rl1 (nI i) b p q
      refine nc K (hK gC' (fun P2 hp2 => ref rl3 P2 ⟨fun w => nr (P2 0) (hp2 _ hR), fun w => ?_⟩))
      rcases hd with hd | ⟨_, hd1, hd2⟩
      · exact absurd w hd
      · exact ⟨fun w2 => absurd w2 hd1, fun _ => ⟨fun _ => nr (P2 0) (hp2 _ hR), fun w2 => absurd w2 hd2⟩⟩
    have lik : ∀ g9, SC2 g9 → x = x2 → (p = q ∨ x2 = 0) → ∀ P2 : Int32 → jm_M → Prop, (∀ g2, b_R (B + 1) (cm_s g9 33 (g9.2.2 33 0 + 1)) g2 → P2 1 g2) → vr_beside (nI i) b gR P2 := by
      intro g9 hg9 hxx hd P2 hp2
      obtain ⟨rl1, rl2, rl3⟩ := rl g9 g1 hg9 hg1'
      refine ref rl3 P2 ⟨fun w => absurd hxx w, fun _ => ⟨fun _ => hp2 _ (like_of rl1), fun w => ⟨fun w2 => ?_, fun _ => hp2 _ (like_of rl1)⟩⟩⟩
      rcases hd with hd | hd
      · exact absurd hd w
      · exact absurd hd w2
    have val2 : ∀ g9, SC2 g9 → ¬ x2 = 0 → g9.2.2 24 0 = q := by
      intro g9 hg9 w
      have x1 : x2 = 1 := by rcases hx2 with q | q; exact absurd q w; exact q
      rw [eq, if_neg w]; exact (rl g9 g1 hg9 hg1').2.1 x1
    refine ⟨fun w => ⟨128, 8192, by omega, by omega, pc2 128 8192 _ (Nat.le_refl _) (Nat.le_refl _) (fun g9 hg9 => ?_)⟩, fun w => ?_⟩
    · have ep0 : p = -2000000000 := by rw [ep, if_pos w]
      refine ⟨fun w2 => ?_, fun w2 => ?_⟩
      · have eq0 : q = -2000000000 := by rw [eq, if_pos w2]
        have hxx : x = x2 := by rw [w, w2]
        refine ⟨fun w3 => absurd hxx w3, fun _ => nm_e ⟨by omega, by omega, hp _ _ (lik g9 hg9 hxx (Or.inr w2))⟩⟩
      · have hxx : ¬ x = x2 := fun e => w2 (e.symm.trans w)
        rw [val2 g9 hg9 w2, ← ep0]
        refine nm_e ⟨fun _ => dif g9 hg9 (Or.inl hxx) _ (fun g17 hg17 => ⟨by omega, by omega, hp _ _ hg17⟩), fun e => absurd e hxx⟩
    · have x1 : x = 1 := by rcases hx with q | q; exact absurd q w; exact q
      have ev : g4.2.2 24 0 = p := by rw [ep, if_neg w]; exact rel2 x1
      rw [ev]
      refine nm_e ⟨128, 8192, by omega, by omega, pc2 128 8192 _ (Nat.le_refl _) (Nat.le_refl _) (fun g9 hg9 => ⟨fun w2 => ?_, fun w2 => ?_⟩)⟩
      · have hxx : ¬ x = x2 := fun e => w (e.trans w2)
        have eq0 : q = -2000000000 := by rw [eq, if_pos w2]
        rw [← eq0]
        refine ⟨fun _ => dif g9 hg9 (Or.inl hxx) _ (fun g17 hg17 => ⟨by omega, by omega, hp _ _ hg17⟩), fun e => absurd e hxx⟩
      · have x21 : x2 = 1 := by rcases hx2 with q | q; exact absurd q w2; exact q
        have hxx : x = x2 := by rw [x1, x21]
        rw [val2 g9 hg9 w2]
        refine nm_e ⟨fun e => absurd hxx e, fun _ => ⟨fun w3 => dif g9 hg9 (Or.inr ⟨hxx, w3, w2⟩) _ (fun g17 hg17 => ⟨by omega, by omega, hp _ _ hg17⟩), fun w3 => nm_e ⟨by omega, by omega, hp _ _ (lik g9 hg9 hxx (Or.inl w3))⟩⟩⟩
