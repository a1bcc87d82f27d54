/-- what it is that a line ties, as 'tied' asks it -/
def b_asks (a : Int32) (o x : Int32) (xo q : Nat) : Prop := (a = 0 ∧ o = 4 ∧ xo = q) ∨ (a = 1 ∧ (o = 2 ∨ o = 7 ∨ o = 8) ∧ x = nI q) ∨ (a = 2 ∧ o = 3 ∧ x = nI q)
def b_place (M T m q p : Nat) (a : Int32) : Prop := (a = 0 ∧ q < M ∧ p = 10 * m + q) ∨ (a = 1 ∧ q < T ∧ p = 100 + (16 * m + q)) ∨ (a = 2 ∧ q < T ∧ p = 260 + (16 * m + q))
theorem tie_asks {M T N m q p m2 : Nat} {r : jm_M} (hX : b_X M T N r) (hM : M ≤ 10) (hT16 : T ≤ 16) (hN : N ≤ 40) (hm : m < M) {a : Int32} (hp : b_place M T m q p a) (hm2 : m2 < M) {o x y : Int32} (hl : b_line T N o x y) : b_tie o m2 x.toNatClampNeg (r 6 x.toNatClampNeg).toNatClampNeg = some p ↔ m2 = m ∧ b_asks a o x (r 6 x.toNatClampNeg).toNatClampNeg q := by
  have d1 : (0 : Int32) ≠ 1 ∧ (0 : Int32) ≠ 2 ∧ (1 : Int32) ≠ 0 ∧ (1 : Int32) ≠ 2 ∧ (2 : Int32) ≠ 0 ∧ (2 : Int32) ≠ 1 := by decide
  unfold b_tie b_asks
  rcases hl with w | w | ⟨w, t, k2, q1, q2, q3, q4⟩ | ⟨w, k2, q1, q2⟩ | ⟨w, -⟩ | w
  · subst w; rcases hp with ⟨rfl, h2, rfl⟩ | ⟨rfl, h2, rfl⟩ | ⟨rfl, h2, rfl⟩ <;> simp
  · subst w; rcases hp with ⟨rfl, h2, rfl⟩ | ⟨rfl, h2, rfl⟩ | ⟨rfl, h2, rfl⟩ <;> simp
  · rw [q3, tn_nI (by omega)]
    have eq1 : q < 16 → (nI t = nI q ↔ t = q) := fun h => nI_eq (by omega) (by omega)
    rcases hp with ⟨rfl, h2, rfl⟩ | ⟨rfl, h2, rfl⟩ | ⟨rfl, h2, rfl⟩
    · rcases w with rfl | rfl | rfl | rfl <;> simp <;> omega
    · rw [eq1 (by omega)]
      rcases w with rfl | rfl | rfl | rfl <;> simp <;> omega
    · rw [eq1 (by omega)]
      rcases w with rfl | rfl | rfl | rfl <;> simp <;> omega
  · obtain ⟨h3, hh3, eh3⟩ := hX.2.2.1 k2 q1
    rw [q2, tn_nI (by omega), eh3, tn_nI (by omega)]
    subst w
    rcases hp with ⟨rfl, h2, rfl⟩ | ⟨rfl, h2, rfl⟩ | ⟨rfl, h2, rfl⟩ <;> simp <;> omega
  · subst w; rcases hp with ⟨rfl, h2, rfl⟩ | ⟨rfl, h2, rfl⟩ | ⟨rfl, h2, rfl⟩ <;> simp
  · subst w; rcases hp with ⟨rfl, h2, rfl⟩ | ⟨rfl, h2, rfl⟩ | ⟨rfl, h2, rfl⟩ <;> simp
set_option maxRecDepth 8000 in
theorem tied_in {M T N m q p : Nat} {gR : jm_M} (hX : b_X M T N gR) (hM : M ≤ 10) (hT16 : T ≤ 16) (hN : N ≤ 40) (hm : m < M) {a : Int32} (hp : b_place M T m q p a) {i z : Nat} (hi : i < N) (ei : gR 6 i = nI m) (hz : z ≤ 16) (ez : gR 7 i = nI z) (hlz : ∀ j, j < z → b_line T N (gR 8 (16 * i + j)) (gR 9 (16 * i + j)) (gR 10 (16 * i + j))) (K : Prop) (Post : Int32 → Prop) : ∀ d j, j + d = z → (b_cnt1 (gR 6) (gR 8) (gR 9) i p j = b_cnt1 (gR 6) (gR 8) (gR 9) i p z → K) → (b_cnt1 (gR 6) (gR 8) (gR 9) i p j < b_cnt1 (gR 6) (gR 8) (gR 9) i p z → Post 1) → vr_isTied_33 a (nI m) (nI q) (nI i) gR K Post (d + 1) (nI (16 * i + j))
  | 0, j, hj, hK, hP => by
    have t1 : (nI i).toNatClampNeg = i := tn_nI (by omega)
    have i1 : vp_in (nI i) 40 := vp_in_nI (by omega) (by omega)
    have e : j = z := by omega
    subst e
    have y2 : (16 : Int32) * nI i + nI j = nI (16 * i + j) := ij (k := 16) (by omega)
    unfold vr_isTied_33
    rw [t1, ez, y2]
    exact ⟨i1, fun _ => hK rfl, fun w => absurd (nI_le (Nat.le_refl _) (by omega)) w⟩
  | d + 1, j, hj, hK, hP => by
    have t1 : (nI i).toNatClampNeg = i := tn_nI (by omega)
    have i1 : vp_in (nI i) 40 := vp_in_nI (by omega) (by omega)
    have t2 : (nI (16 * i + j)).toNatClampNeg = 16 * i + j := tn_nI (by omega)
    have i2 : vp_in (nI (16 * i + j)) 640 := vp_in_nI (by omega) (by omega)
    have y2 : (16 : Int32) * nI i + nI z = nI (16 * i + z) := ij (k := 16) (by omega)
    have hl := hlz j (by omega)
    have hst : b_cnt1 (gR 6) (gR 8) (gR 9) i p (j + 1) = b_cnt1 (gR 6) (gR 8) (gR 9) i p j + (if b_tie (gR 8 (16 * i + j)) (gR 6 i).toNatClampNeg (gR 9 (16 * i + j)).toNatClampNeg (gR 6 (gR 9 (16 * i + j)).toNatClampNeg).toNatClampNeg = some p then 1 else 0) := rfl
    rw [ei, tn_nI (by omega : m < 2 ^ 31)] at hst
    have hmono := b_cnt1_mono (w := gR 6) (o := gR 8) (x := gR 9) (i := i) (p := p) z (show j + 1 ≤ z by omega)
    have hq := tie_asks hX hM hT16 hN hm hp hm hl
    simp only [true_and] at hq
    have rec_ : ¬ b_asks a (gR 8 (16 * i + j)) (gR 9 (16 * i + j)) (gR 6 (gR 9 (16 * i + j)).toNatClampNeg).toNatClampNeg q → vr_isTied_33 a (nI m) (nI q) (nI i) gR K Post (d + 1) (nI (16 * i + (j + 1))) := fun hn => by
      rw [if_neg (fun w => hn (hq.mp w))] at hst
      exact tied_in hX hM hT16 hN hm hp hi ei hz ez hlz K Post d (j + 1) (by omega) (fun w => hK (by omega)) (fun w => hP (by omega))
    have post : b_asks a (gR 8 (16 * i + j)) (gR 9 (16 * i + j)) (gR 6 (gR 9 (16 * i + j)).toNatClampNeg).toNatClampNeg q → Post 1 := fun hn => by
      rw [if_pos (hq.mpr hn)] at hst
      exact hP (by omega)
    unfold vr_isTied_33
    have hge : ¬ nI (16 * i + z) ≤ nI (16 * i + j) := nI_ge (by omega) (by omega)
    rw [t1, ez, y2, t2]
    refine ⟨i1, fun w => absurd w hge, fun _ => ⟨i2, nm_e ?_⟩⟩
    rw [show nI (16 * i + j) + 1 = nI (16 * i + (j + 1)) from nI_1 _]
    rcases hp with ⟨rfl, h2, rfl⟩ | ⟨rfl, h2, rfl⟩ | ⟨rfl, h2, rfl⟩
    · rcases hl with w | w | ⟨w, t, k2, q1, q2, q3, q4⟩ | ⟨w, k2, q1, q2⟩ | ⟨w, -⟩ | w
      · have r := rec_ (by simp [b_asks, w]); simp [w, r]
      · have r := rec_ (by simp [b_asks, w]); simp [w, r]
      · have r := rec_ (by rcases w with w | w | w | w <;> simp [b_asks, w])
        rcases w with w | w | w | w <;> simp [w, r]
      · obtain ⟨h3, hh3, eh3⟩ := hX.2.2.1 k2 q1
        have t4 : (nI k2).toNatClampNeg = k2 := tn_nI (by omega)
        have i4 : vp_in (nI k2) 40 := vp_in_nI (by omega) (by omega)
        rw [q2, t4, eh3, tn_nI (by omega)] at rec_ post
        rw [q2, t4, eh3, w]
        have e3 : nI h3 = nI q ↔ h3 = q := nI_eq (by omega) (by omega)
        by_cases e : h3 = q
        · have r := post (by simp [b_asks, w, e]); simp [e3, e, i2, i4, r]
        · have r := rec_ (by simp [b_asks, w, e]); simp [e3, e, i2, i4, r]
      · have r := rec_ (by simp [b_asks, w]); simp [w, r]
      · have r := rec_ (by simp [b_asks, w]); simp [w, r]
    · rcases hl with w | w | ⟨w, t, k2, q1, q2, q3, q4⟩ | ⟨w, k2, q1, q2⟩ | ⟨w, -⟩ | w
      · have r := rec_ (by simp [b_asks, w]); simp [w, r]
      · have r := rec_ (by simp [b_asks, w]); simp [w, r]
      · by_cases e : gR 9 (16 * i + j) = nI q
        · rcases w with w | w | w | w
          · have r := post (by simp [b_asks, w, e]); simp [w, e, i2, r]
          · have r := rec_ (by simp [b_asks, w, e]); simp [w, e, i2, r]
          · have r := post (by simp [b_asks, w, e]); simp [w, e, i2, r]
          · have r := post (by simp [b_asks, w, e]); simp [w, e, i2, r]
        · have r := rec_ (by simp [b_asks, w, e])
          rcases w with w | w | w | w <;> simp [w, e, i2, r]
      · have r := rec_ (by simp [b_asks, w]); simp [w, r]
      · have r := rec_ (by simp [b_asks, w]); simp [w, r]
      · have r := rec_ (by simp [b_asks, w]); simp [w, r]
    · rcases hl with w | w | ⟨w, t, k2, q1, q2, q3, q4⟩ | ⟨w, k2, q1, q2⟩ | ⟨w, -⟩ | w
      · have r := rec_ (by simp [b_asks, w]); simp [w, r]
      · have r := rec_ (by simp [b_asks, w]); simp [w, r]
      · by_cases e : gR 9 (16 * i + j) = nI q
        · rcases w with w | w | w | w
          · have r := rec_ (by simp [b_asks, w, e]); simp [w, e, i2, r]
          · have r := post (by simp [b_asks, w, e]); simp [w, e, i2, r]
          · have r := rec_ (by simp [b_asks, w, e]); simp [w, e, i2, r]
          · have r := rec_ (by simp [b_asks, w, e]); simp [w, e, i2, r]
        · have r := rec_ (by simp [b_asks, e])
          rcases w with w | w | w | w <;> simp [w, e, i2, r]
      · have r := rec_ (by simp [b_asks, w]); simp [w, r]
      · have r := rec_ (by simp [b_asks, w]); simp [w, r]
      · have r := rec_ (by simp [b_asks, w]); simp [w, r]
/-- a routine of another module makes no such tie -/
theorem tied_not {M T N m q p : Nat} {gR : jm_M} (hX : b_X M T N gR) (hM : M ≤ 10) (hT16 : T ≤ 16) (hN : N ≤ 40) (hm : m < M) {a : Int32} (hp : b_place M T m q p a) {i m2 : Nat} (ei : gR 6 i = nI m2) (hm2 : m2 < M) (hne : m2 ≠ m) : ∀ z, z ≤ 16 → (∀ j, j < z → b_line T N (gR 8 (16 * i + j)) (gR 9 (16 * i + j)) (gR 10 (16 * i + j))) → b_cnt1 (gR 6) (gR 8) (gR 9) i p z = 0
  | 0, _, _ => rfl
  | z + 1, hz, hl => by
    rw [b_cnt1, tied_not hX hM hT16 hN hm hp ei hm2 hne z (by omega) (fun j hj => hl j (by omega)), ei, tn_nI (by omega), if_neg]
    intro w
    exact hne ((tie_asks hX hM hT16 hN hm hp hm2 (hl z (by omega))).mp w).1
theorem tied_out {M T N m q p : Nat} {gR : jm_M} (hX : b_X M T N gR) (r5 : gR 5 0 = nI N) (hM : M ≤ 10) (hT16 : T ≤ 16) (hN : N ≤ 40) (hm : m < M) {a : Int32} (hp : b_place M T m q p a) (Post : Int32 → Prop) : ∀ d i, i + d = N → (b_cnt (gR 6) (gR 7) (gR 8) (gR 9) p i = b_cnt (gR 6) (gR 7) (gR 8) (gR 9) p N → Post 0) → (b_cnt (gR 6) (gR 7) (gR 8) (gR 9) p i < b_cnt (gR 6) (gR 7) (gR 8) (gR 9) p N → Post 1) → vr_isTied_3 a (nI m) (nI q) gR Post (d + 1) (nI i)
  | 0, i, hi, h0, h1 => by
    have e : i = N := by omega
    subst e
    unfold vr_isTied_3
    rw [r5]
    exact ⟨fun _ => h0 rfl, fun w => absurd (nI_le (Nat.le_refl _) (by omega)) w⟩
  | d + 1, i, hi, h0, h1 => by
    have t1 : (nI i).toNatClampNeg = i := tn_nI (by omega)
    have i1 : vp_in (nI i) 40 := vp_in_nI (by omega) (by omega)
    have y2 : (16 : Int32) * nI i = nI (16 * i) := pk_mul 16 i
    obtain ⟨z, hz, ez, hlz⟩ := hX.2.2.2.1 i (by omega)
    obtain ⟨m2, hm2, em2⟩ := hX.2.2.1 i (by omega)
    have hst : b_cnt (gR 6) (gR 7) (gR 8) (gR 9) p (i + 1) = b_cnt (gR 6) (gR 7) (gR 8) (gR 9) p i + b_cnt1 (gR 6) (gR 8) (gR 9) i p (gR 7 i).toNatClampNeg := rfl
    rw [ez, tn_nI (by omega : z < 2 ^ 31)] at hst
    have mono : ∀ k, i + 1 + k ≤ N → b_cnt (gR 6) (gR 7) (gR 8) (gR 9) p (i + 1) ≤ b_cnt (gR 6) (gR 7) (gR 8) (gR 9) p (i + 1 + k) := by
      intro k
      induction k with
      | zero => intro _; exact Nat.le_refl _
      | succ k ih => intro w; exact Nat.le_trans (ih (by omega)) (Nat.le_add_right _ _)
    have mono2 := mono d (by omega)
    rw [show i + 1 + d = N by omega] at mono2
    unfold vr_isTied_3
    rw [r5, t1]
    refine ⟨fun w => absurd w (nI_ge (by omega) (by omega)), fun _ => ⟨i1, fun w => nm_e ⟨z + 1, ?_⟩, fun w => ?_⟩⟩
    · rw [y2, nI_1]
      have main := tied_in hX hM hT16 hN hm hp (by omega : i < N) w hz ez hlz (vr_isTied_3 a (nI m) (nI q) gR Post (d + 1) (nI (i + 1))) Post z 0 (by omega) (fun e => by
        have e0 : b_cnt1 (gR 6) (gR 8) (gR 9) i p 0 = 0 := rfl
        rw [e0] at e
        exact tied_out hX r5 hM hT16 hN hm hp Post d (i + 1) (by omega) (fun w => h0 (by omega)) (fun w => h1 (by omega))) (fun e => h1 (by
        have e0 : b_cnt1 (gR 6) (gR 8) (gR 9) i p 0 = 0 := rfl
        rw [e0] at e
        omega))
      exact main
    · have hne : m2 ≠ m := fun e => w (by rw [em2, e])
      have z0 := tied_not hX hM hT16 hN hm hp em2 hm2 hne z hz hlz
      rw [nI_1]
      exact tied_out hX r5 hM hT16 hN hm hp Post d (i + 1) (by omega) (fun w => h0 (by omega)) (fun w => h1 (by omega))
theorem op_tied {B : Nat} {gC : cm_M} {gR : jm_M} (h : b_R B gC gR) (a b c : Int32) : ∃ (r : Int32), (∀ P : Int32 → Prop, P r → vc_X10_tied a b c gC P) ∧ (∀ P : Int32 → Prop, P r → vr_tied a b c gR P) := by
  obtain ⟨M, T, N, hT, hX, ht, ⟨hc, hr, ⟨k1, k2, k3, k4⟩, hu, hs, hl⟩, hW, hP, hA, hI⟩ := id h
  obtain ⟨hM, hT16, hN, c12, r1, c13, r3, c14, r5, -⟩ := id hT
  rcases ties_iff hM hT16 c12 r1 c13 r3 a b c with ⟨q1, q2⟩ | ⟨m, x, k, hm, rfl, rfl, hk, q1, q2, q3⟩
  · refine ⟨-1, fun P hp => q1 _ ?_, fun P hp => q2 _ ?_⟩
    · exact ⟨fun q => absurd rfl q, fun _ => hp⟩
    · exact ⟨fun q => absurd rfl q, fun _ => hp⟩
  · have hk2 : k < 420 := by rcases hk with ⟨-, q, rfl⟩ | ⟨-, q, rfl⟩ | ⟨-, q, rfl⟩ <;> omega
    have hle := b_cnt_le hX k N (Nat.le_refl N)
    refine ⟨if b_cnt (gR 6) (gR 7) (gR 8) (gR 9) k N = 0 then 0 else 1, fun P hp => q1 _ ⟨fun _ => q3 _ ⟨vp_in_nI hk2 (by omega), ?_⟩, fun q => absurd q (by decide)⟩, fun P hp => q2 _ ⟨fun _ => ?_, fun q => absurd q (by decide)⟩⟩
    · rw [tn_nI (by omega), ht k hk2]
      by_cases e : b_cnt (gR 6) (gR 7) (gR 8) (gR 9) k N = 0
      · rw [if_pos e] at hp; rw [e]; exact ⟨fun _ => hp, fun q => absurd (by decide) q⟩
      · rw [if_neg e] at hp; exact ⟨fun q => absurd q (nI_nle (by omega) (by omega)), fun _ => hp⟩
    · refine ⟨N + 1, ?_⟩
      have e0 : b_cnt (gR 6) (gR 7) (gR 8) (gR 9) k 0 = 0 := rfl
      refine tied_out hX r5 hM hT16 hN hm hk _ N 0 (by omega) (fun e => ?_) (fun e => ?_)
      · rw [e0] at e; rw [if_pos e.symm] at hp; exact ⟨fun _ => hp, fun q => absurd rfl q⟩
      · rw [e0] at e; rw [if_neg (by omega)] at hp; exact ⟨fun q => absurd q (by decide), fun _ => hp⟩
