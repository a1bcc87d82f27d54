/-- class and reference agree, with what they know of the text named -/
def b_RR (B M T N : Nat) (gC : cm_M) (gR : jm_M) : Prop := b_T M T N gC.2.2 gR ∧ b_X M T N gR ∧ b_ties N gC.2.2 gR ∧ b_H B T gC.1.2.1 gC.2.2 gR ∧ b_W T gC.2.2 gR ∧ b_P M gC.2.2 gR ∧ b_A gC.2.2 ∧ b_I B gC.1 gC.2.2 gR
theorem b_RR_R {B M T N : Nat} {gC : cm_M} {gR : jm_M} (h : b_RR B M T N gC gR) : b_R B gC gR := ⟨M, T, N, h⟩
theorem b_RR_mono {B B2 M T N : Nat} (hB : B ≤ B2) {gC : cm_M} {gR : jm_M} (h : b_RR B M T N gC gR) : b_RR B2 M T N gC gR := by
  obtain ⟨hT, hX, ht, hH, hW, hP, hA, hI⟩ := h
  exact ⟨hT, hX, ht, b_H_mono hB hH, hW, hP, hA, b_I_mono hB hI⟩
theorem b_L_n {T : Nat} {n n' : Nat → Nat} {c r : jm_M} (h : b_L T n c r) (h2 : n' 2 = n 2) (h3 : n' 3 = n 3) : b_L T n' c r := by
  obtain ⟨S, e, l1, l2, l3, l4, l5, l6, l7, l8⟩ := h
  exact ⟨S, e, l1, l2, l3, by rw [h2]; exact l4, by rw [h2]; exact l5, by rw [h2]; exact l6, by rw [h2, h3]; exact l7, l8⟩
/-- what an act of either house gives: x says whether it stands, v what it answers -/
def b_acts (B M T N : Nat) (vc : Nat → Nat → (Int32 → cm_M → Prop) → Prop) (vr : (Int32 → jm_M → Prop) → Prop) (mc ms : Nat) : Prop := ∃ (x v : Int32) (SC : cm_M → Prop) (SR : jm_M → Prop), (x = 0 ∨ x = 1) ∧ (∀ MC MS (P : Int32 → cm_M → Prop), mc ≤ MC → ms ≤ MS → (∀ g, SC g → P x g) → vc MC MS P) ∧ (∀ P : Int32 → jm_M → Prop, (∀ g, SR g → P (if x = 0 then -2000000000 else v) g) → vr P) ∧ (∃ g0, ∀ g2, SR g2 ↔ g2 = g0) ∧ ∀ g g2, SC g → SR g2 → b_RR B M T N g g2 ∧ (x = 1 → g.2.2 24 0 = v) ∧ g2 23 0 = x
theorem old_of {B M T N i : Nat} {gC : cm_M} {gR : jm_M} (h : b_RR B M T N gC gR) (hi : i < N) (hB : B ≤ 512) (a : Int32) : b_acts (B + 1) M T N (fun MC MS => vc_X10_standsInOld MC MS (nI i) a gC) (vr_runOld (nI i) a gR) 2 2048 := by
  obtain ⟨hT, hX, ht, hH, hW, hP, hA, hI⟩ := id h
  obtain ⟨hM, hT16, hN, c12, r1, c13, r3, c14, r5, e4, e5, e6, e7, e8, e9, e10⟩ := id hT
  obtain ⟨x, c', r', hx, pc, pr⟩ := act_of (kc := 25) (kr := 11) (Or.inl ⟨rfl, rfl⟩) hT hX hH hA hi a
  rcases hx with ⟨rfl, W, Q, m1, m2, m3, m4, m5⟩ | ⟨rfl, hAK⟩
  · obtain ⟨gd, gj, c0⟩ := gC
    obtain ⟨⟨y1, y2, y3⟩, hr, ⟨k1, k2, k3, k4⟩, ⟨u1, u2, u3, u4, u5, u6⟩, hS, hL⟩ := id hH
    have h4 : ∀ i, i < T → ∃ h : Nat, h < 10 ∧ gR 4 i = nI h := fun i hi => by
      obtain ⟨h2, hh, eh⟩ := hX.2.1 i hi
      exact ⟨h2, by omega, eh⟩
    obtain ⟨w1, w2, w3, w4, w5, w6⟩ := id m2
    have hwl : W.length ≤ 128 := by have := nd_len (8 * T) W w1 w2; omega
    have hmask := b_mask_lt h4 W w2
    obtain ⟨v1, s1, p1⟩ := ko1 (gd := gd) (gj := gj) (c := jm_o c0 c' 15 24) (r := gR) (W := W) hT16 h4 e5 w2 hwl w3 (fun j hj => (w5 j hj).1) 2 2048 W.length 0 (jm_o c0 c' 15 24 25) (by omega) (fun x hx => by simp)
    have zz : ∀ p, p < 420 → (c0 28 p).toNatClampNeg ≤ 300 * B ∧ c0 28 p = nI (c0 28 p).toNatClampNeg := fun p hp => by
      obtain ⟨z, hz, ez⟩ := k4 p hp
      have ez' : c0 28 p = nI z := ez
      rw [ez', tn_nI (by omega)]; exact ⟨hz, rfl⟩
    obtain ⟨v2, s2, p2⟩ := ko2 (gd := gd) (gj := gj) (c := jm_u (jm_o c0 c' 15 24) 25 v1) (Q := Q) m3.1 m3.2.2.2.1 m3.2.1 m3.2.2.1 2 2048 (nI (b_mask gR W)) (fun p => (c0 28 p).toNatClampNeg) Q.length 0 (c0 28) (by omega) (fun p hp => (zz p hp).2)
    obtain ⟨q11, a11, b11⟩ := ro1 (r := jm_s (jm_o gR r' 13 22) 23 1) 128 0 (gR 11) (by omega) (fun x hx => absurd hx (Nat.not_lt_zero x))
    obtain ⟨q24, a24, b24⟩ := ro2 (r := jm_u (jm_s (jm_o gR r' 13 22) 23 1) 11 q11) 100 0 (gR 24) (by omega) (fun x hx => absurd hx (Nat.not_lt_zero x)) (fun x _ => rfl)
    obtain ⟨q25, q26, a25, b25⟩ := ro3 (r := jm_u (jm_u (jm_s (jm_o gR r' 13 22) 23 1) 11 q11) 24 q24) 160 0 (gR 25) (gR 26) (by omega) (fun x hx => absurd hx (Nat.not_lt_zero x)) (fun x _ => ⟨rfl, rfl⟩)
    have hm0 : nI (b_mask gR W) = 0 ↔ b_mask gR W = 0 := nI_eq (b := 0) (by omega) (by omega)
    have tmask : (nI (b_mask gR W)).toNatClampNeg = b_mask gR W := tn_nI (by omega)
    refine ⟨1, c' 24 0, fun g => ∃ (a' n' : Nat → Nat) (f34 f35 f36 : Nat → Int32), n' 2 = gd.2.1 2 ∧ n' 3 = gd.2.1 3 ∧ b_S1 B (b_mask gR W) n' (jm_u (jm_u (jm_u (jm_u (jm_u (jm_o c0 c' 15 24) 25 v1) 28 v2) 34 f34) 35 f35) 36 f36) gR ∧ g = ((a', n', gd.2.2), gj, jm_s (jm_u (jm_u (jm_u (jm_u (jm_u (jm_o c0 c' 15 24) 25 v1) 28 v2) 34 f34) 35 f35) 36 f36) 31 (c0 31 0 + 1)), fun g => ∃ v27 : Nat → Int32, v27 = (if b_mask gR W = 0 then gR 27 else upd (gR 27) (b_mask gR W) (gR 27 (b_mask gR W) + 1)) ∧ g = jm_s (jm_u (jm_u (jm_u (jm_u (jm_u (jm_s (jm_o gR r' 13 22) 23 1) 11 q11) 24 q24) 25 q25) 26 q26) 27 v27) 28 (gR 28 0 + 1), Or.inr rfl, fun MC MS P hMC hMS hp => pc _ ⟨fun _ => ⟨2, 2048, by omega, by omega, ?_⟩, fun w => absurd w (by decide)⟩, fun P hp => pr _ ⟨jj_nb1, nm_e ⟨fun _ => ⟨129, ?_⟩, fun w => absurd w (show ¬ (1 : Int32) = 0 by decide)⟩⟩, ⟨_, fun g2 => ⟨fun ⟨v, hv, hg⟩ => by rw [hg, hv], fun hg => ⟨_, rfl, hg⟩⟩⟩, ?_⟩
    · refine ⟨W.length + 1, ?_⟩
      have m := p1 (fun (y5 : Int32) (g6 : cm_M) => ∃ n15 : Nat, vc_X4_keepOld_61 2 2048 y5 (fun (g9 : cm_M) => ∃ mc12 ms13 : Nat, (0 + mc12 ≤ 2) ∧ (0 + ms13 ≤ 2048) ∧ (vc_X3_add mc12 ms13 y5 g9 (fun (g11 : cm_M) => ∀ g14 : cm_M, g14 = cm_s g11 31 ((g11.2.2 31 0) + 1) → ((0 + mc12 ≤ 2) ∧ (0 + ms13 ≤ 2048) ∧ ((fun g5 => 0 + 2 ≤ MC ∧ 0 + 2048 ≤ MS ∧ P 1 g5) g14))))) (fun g5 => 0 + 2 ≤ MC ∧ 0 + 2048 ≤ MS ∧ P 1 g5) n15 0 g6) (fun g5 => 0 + 2 ≤ MC ∧ 0 + 2048 ≤ MS ∧ P 1 g5) ⟨Q.length + 1, ?_⟩
      · rw [jm_u0] at m
        exact m
      · have m2 := p2 (fun (g9 : cm_M) => ∃ mc12 ms13 : Nat, (0 + mc12 ≤ 2) ∧ (0 + ms13 ≤ 2048) ∧ (vc_X3_add mc12 ms13 (nI (b_mask gR W)) g9 (fun (g11 : cm_M) => ∀ g14 : cm_M, g14 = cm_s g11 31 ((g11.2.2 31 0) + 1) → ((0 + mc12 ≤ 2) ∧ (0 + ms13 ≤ 2048) ∧ ((fun g5 => 0 + 2 ≤ MC ∧ 0 + 2048 ≤ MS ∧ P 1 g5) g14))))) (fun g5 => 0 + 2 ≤ MC ∧ 0 + 2048 ≤ MS ∧ P 1 g5) ⟨2, 2048, by omega, by omega, ?_⟩
        · have e28 : c0 28 = (jm_u (jm_o c0 c' 15 24) 25 v1) 28 := rfl
          rw [e28, jm_u0] at m2
          exact m2
        · refine add_of (B := B) (gd := gd) (gj := gj) (c := jm_u (jm_u (jm_o c0 c' 15 24) 25 v1) 28 v2) (r := gR) hS hmask (by omega) (by omega) _ (fun a' n' f34 f35 f36 n2 n3 hs1 g14 hg14 => ⟨by omega, by omega, by omega, by omega, hp g14 ⟨a', n', f34, f35, f36, n2, n3, hs1, hg14⟩⟩)
    · have e11 : gR 11 = (jm_s (jm_o gR r' 13 22) 23 1) 11 := rfl
      rw [e11, jm_u0] at b11
      refine b11 _ _ ⟨101, ?_⟩
      have e24 : gR 24 = (jm_u (jm_s (jm_o gR r' 13 22) 23 1) 11 q11) 24 := rfl
      rw [e24, jm_u0] at b24
      refine b24 _ _ ⟨161, ?_⟩
      have e25 : gR 25 = (jm_u (jm_u (jm_s (jm_o gR r' 13 22) 23 1) 11 q11) 24 q24) 25 := rfl
      rw [e25, jm_u0] at b25
      have e26 : gR 26 = (jm_u (jm_u (jm_s (jm_o gR r' 13 22) 23 1) 11 q11) 24 q24) 26 := rfl
      rw [e26, jm_u0] at b25
      refine b25 _ _ ⟨W.length + 1, ?_⟩
      refine ro4 (T := T) (r := jm_u (jm_u (jm_u (jm_u (jm_s (jm_o gR r' 13 22) 23 1) 11 q11) 24 q24) 25 q25) 26 q26) (W := W) hT16 h4 w2 hwl w4 (fun j hj => (w5 j hj).2) _ _ ?_ W.length 0 (by omega)
      have em : b_mask (jm_u (jm_u (jm_u (jm_u (jm_s (jm_o gR r' 13 22) 23 1) 11 q11) 24 q24) 25 q25) 26 q26) W = b_mask gR W := rfl
      rw [em]
      have ev : c' 24 0 = (jm_s (jm_o gR r' 13 22) 23 1) 22 0 := m5
      have one : (if (1 : Int32) = 0 then (-2000000000 : Int32) else c' 24 0) = c' 24 0 := if_neg (by decide)
      rw [one, ev] at hp
      have hp' := hp
      refine ⟨fun w => nm_e (hp' _ ⟨gR 27, ?_, ?_⟩), fun w => ⟨?_, ?_, nm_e (nm_e (hp' _ ⟨_, rfl, ?_⟩))⟩⟩
      · rw [if_pos (hm0.mp w)]
      · have e27 : gR 27 = (jm_u (jm_u (jm_u (jm_u (jm_s (jm_o gR r' 13 22) 23 1) 11 q11) 24 q24) 25 q25) 26 q26) 27 := rfl
        rw [e27, jm_u0]; rfl
      · exact vp_in_nI (by omega) (by omega)
      · exact vp_in_nI (by omega) (by omega)
      · rw [if_neg (fun e => w (hm0.mpr e)), tmask]
        show jm_s (jm_u (jm_u (jm_u (jm_u (jm_u (jm_s (jm_o gR r' 13 22) 23 1) 11 q11) 24 q24) 25 q25) 26 q26) 27 (upd (gR 27) (nI (b_mask gR W)).toNatClampNeg (gR 27 (b_mask gR W) + 1))) 28 (gR 28 0 + 1) = _
        rw [tmask]
    · rintro g g2 ⟨a', n', f34, f35, f36, n2, n3, hs1, rfl⟩ ⟨v27, hv27, rfl⟩
      have hcnt : ∀ p, Q.count p ≤ 300 := fun p => Nat.le_trans (List.count_le_length) m3.1
      refine ⟨⟨hT, hX, ht, ⟨⟨fun i hi => ?_, y2, fun i hi hi2 => ⟨?_, (y3 i hi hi2).2⟩⟩, hr, ⟨fun i hi => ?_, fun i hi => ?_, fun i hi => ?_, fun i hi => ?_⟩, ⟨u1, u2, u3, ?_, u5, u6⟩, hs1 _ hv27, b_L_n hL n2 n3⟩, hW, hP, ⟨hA.1, m2_AK (r := r') hT16 m2⟩, b_I_mono (Nat.le_succ B) hI⟩, fun _ => rfl, rfl⟩
      · show v1 i = q11 i
        rw [s1 i hi, a11 i hi]
        show (if i ∈ W then c' 15 i else c0 25 i) = r' 13 i
        by_cases q : i ∈ W
        · rw [if_pos q]; exact (m1 i hi).1
        · rw [if_neg q, (m1 i hi).2 q]; exact y1 i hi
      · show q11 i = 0
        rw [a11 i hi2]
        show r' 13 i = 0
        rw [(m1 i hi2).2 (fun w => by have := w2 i w; omega)]
        exact (y3 i hi hi2).1
      · show v2 i = q24 i
        rw [s2 i (by omega), a24 i hi]
        show _ = gR 24 i + r' 14 i
        rw [m3.2.2.2.2.1 i hi, ← k1 i hi]
        show _ = c0 28 i + nI (Q.count i)
        rw [(zz i (by omega)).2, tn_nI (by have := (zz i (by omega)).1; omega), nI_add]
      · show v2 (100 + i) = q25 i
        rw [s2 (100 + i) (by omega), (a25 i hi).1]
        show _ = gR 25 i + r' 15 i
        rw [m3.2.2.2.2.2.1 i hi, ← k2 i hi]
        show _ = c0 28 (100 + i) + nI (Q.count (100 + i))
        rw [(zz (100 + i) (by omega)).2, tn_nI (by have := (zz (100 + i) (by omega)).1; omega), nI_add]
      · show v2 (260 + i) = q26 i
        rw [s2 (260 + i) (by omega), (a25 i hi).2]
        show _ = gR 26 i + r' 16 i
        rw [m3.2.2.2.2.2.2 i hi, ← k3 i hi]
        show _ = c0 28 (260 + i) + nI (Q.count (260 + i))
        rw [(zz (260 + i) (by omega)).2, tn_nI (by have := (zz (260 + i) (by omega)).1; omega), nI_add]
      · refine ⟨(c0 28 i).toNatClampNeg + Q.count i, ?_, s2 i hi⟩
        have := (zz i hi).1
        have := hcnt i
        omega
      · show c0 31 0 + 1 = gR 28 0 + 1
        rw [show c0 31 0 = gR 28 0 from u4]
  · refine ⟨0, 0, fun g => g = b_c gC.1 gC.2.1 gC.2.2 c', fun g => g = jm_s (jm_o gR r' 13 22) 23 0, Or.inl rfl, fun MC MS P hMC hMS hp => pc _ ⟨fun w => absurd rfl w, fun _ => hp _ rfl⟩, fun P hp => pr _ ⟨jj_nb0, nm_e ⟨fun w => absurd rfl w, fun _ => ?_⟩⟩, ⟨_, fun _ => Iff.rfl⟩, ?_⟩
    · have := hp _ rfl
      rw [if_pos rfl] at this
      exact this
    · rintro g g2 rfl rfl
      refine ⟨⟨hT, hX, ht, b_H_mono (Nat.le_succ B) hH, hW, hP, ⟨hA.1, hAK⟩, b_I_mono (Nat.le_succ B) hI⟩, fun w => absurd w (by decide), rfl⟩
