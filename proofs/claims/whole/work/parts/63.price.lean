/-! the class's prices -/
theorem jl_u0 (g : cm_J) (k : Nat) : jl_u g k (g k) = g := by
  funext j
  by_cases h : j = k
  · subst h; simp [jl_u]
  · simp [jl_u, nb_f h]
theorem jl_uu (g : cm_J) (k : Nat) (f f2 : Nat → Int64) : jl_u (jl_u g k f) k f2 = jl_u g k f2 := by
  funext j
  by_cases h : j = k
  · subst h; simp [jl_u]
  · simp [jl_u, nb_f h]
theorem jl_uk (g : cm_J) (k : Nat) (f : Nat → Int64) : jl_u g k f k = f := by simp [jl_u]
theorem jl_un (g : cm_J) {k j : Nat} (f : Nat → Int64) (h : j ≠ k) : jl_u g k f j = g j := by simp [jl_u, nb_f h]
def q_inv (M : Nat) (u : Nat → Int64) (F : Nat → Nat → Nat) : Prop := ∀ a b, a < M → b < M → a ≠ b → u (10 * a + b) = lN (F a b + F b a)
theorem q_inv_ext {M : Nat} {u : Nat → Int64} {F G : Nat → Nat → Nat} (h : q_inv M u F) (e : ∀ a b, a < M → b < M → F a b = G a b) : q_inv M u G := fun a b ha hb hab => by
  rw [h a b ha hb hab, e a b ha hb, e b a hb ha]
theorem ap_of {M m n : Nat} {gd : cm_D} {gj : cm_J} {c : jm_M} {u : Nat → Int64} {F : Nat → Nat → Nat} (hM : M ≤ 10) (hm : m < M) (hn : n < M) (x : Nat) (hu : q_inv M u F) : ∃ u', q_inv M u' (fun a b => F a b + (if a = m ∧ b = n then x else 0)) ∧ ∀ P : cm_M → Prop, P (gd, jl_u gj 0 u', c) → vc_X7_addToPair (nI m) (nI n) (lN x) (gd, jl_u gj 0 u, c) P := by
  have eo : nI m = nI n ↔ m = n := nI_eq (by omega) (by omega)
  by_cases hmn : m = n
  · refine ⟨u, fun a b ha hb hab => ?_, fun P hp => ⟨fun _ => hp, fun w => absurd (eo.mpr hmn) w⟩⟩
    show u (10 * a + b) = lN ((F a b + (if a = m ∧ b = n then x else 0)) + (F b a + (if b = m ∧ a = n then x else 0)))
    rw [if_neg (fun w => hab (by omega)), if_neg (fun w => hab (by omega))]
    exact hu a b ha hb hab
  · have i1 : nI m * 10 + nI n = nI (10 * m + n) := ij' (k := 10) (by omega)
    have i2 : nI n * 10 + nI m = nI (10 * n + m) := ij' (k := 10) (by omega)
    have t1 : (nI (10 * m + n)).toNatClampNeg = 10 * m + n := tn_nI (by omega)
    have t2 : (nI (10 * n + m)).toNatClampNeg = 10 * n + m := tn_nI (by omega)
    refine ⟨vp_updL (vp_updL u (10 * m + n) (u (10 * m + n) + lN x)) (10 * n + m) (u (10 * n + m) + lN x), fun a b ha hb hab => ?_, fun P hp => ⟨fun w => absurd (eo.mp w) hmn, fun _ => ?_⟩⟩
    · show vp_updL (vp_updL u (10 * m + n) (u (10 * m + n) + lN x)) (10 * n + m) (u (10 * n + m) + lN x) (10 * a + b) = lN ((F a b + (if a = m ∧ b = n then x else 0)) + (F b a + (if b = m ∧ a = n then x else 0)))
      by_cases q1 : a = n ∧ b = m
      · obtain ⟨rfl, rfl⟩ := q1
        rw [pk_uLs, if_neg (fun w => hab w.1), if_pos ⟨rfl, rfl⟩, hu a b ha hb hab, lN_add]
        congr 1; omega
      · rw [pk_uLn (by omega)]
        by_cases q2 : a = m ∧ b = n
        · obtain ⟨rfl, rfl⟩ := q2
          rw [pk_uLs, if_pos ⟨rfl, rfl⟩, if_neg (fun w => hab w.1.symm), hu a b ha hb hab, lN_add]
          congr 1; omega
        · rw [pk_uLn (by omega), if_neg q2, if_neg (fun w => q1 ⟨w.2, w.1⟩), hu a b ha hb hab]
          rfl
    · rw [i1, i2]
      refine ⟨vp_in_nI (by omega) (by omega), vp_in_nI (by omega) (by omega), nm_e ⟨vp_in_nI (by omega) (by omega), vp_in_nI (by omega) (by omega), nm_e ?_⟩⟩
      have e : cm_la (cm_la (gd, jl_u gj 0 u, c) 0 (nI (10 * m + n)) (((gd, jl_u gj 0 u, c) : cm_M).2.1 0 (nI (10 * m + n)).toNatClampNeg + lN x)) 0 (nI (10 * n + m)) ((cm_la (gd, jl_u gj 0 u, c) 0 (nI (10 * m + n)) (((gd, jl_u gj 0 u, c) : cm_M).2.1 0 (nI (10 * m + n)).toNatClampNeg + lN x)).2.1 0 (nI (10 * n + m)).toNatClampNeg + lN x) = (gd, jl_u gj 0 (vp_updL (vp_updL u (10 * m + n) (u (10 * m + n) + lN x)) (10 * n + m) (u (10 * n + m) + lN x)), c) := by
        show (gd, jl_u (jl_u (jl_u gj 0 u) 0 (vp_updL u (nI (10 * m + n)).toNatClampNeg (u (nI (10 * m + n)).toNatClampNeg + lN x))) 0 (vp_updL (vp_updL u (nI (10 * m + n)).toNatClampNeg (u (nI (10 * m + n)).toNatClampNeg + lN x)) (nI (10 * n + m)).toNatClampNeg (vp_updL u (nI (10 * m + n)).toNatClampNeg (u (nI (10 * m + n)).toNatClampNeg + lN x) (nI (10 * n + m)).toNatClampNeg + lN x)), c) = _
        rw [t1, t2, pk_uLn (f := u) (show 10 * n + m ≠ 10 * m + n by omega), jl_uu, jl_uu]
      rw [e]
      exact hp
/-- what class and reference have in common of the counts -/
def q_cc (M T : Nat) (c r : jm_M) : Prop := c 12 0 = nI M ∧ c 13 0 = nI T ∧ c 5 = r 4 ∧ (∀ i, i < 4 → c 2 i = r 31 i) ∧ (∀ i, i < 100 → c 28 i = r 24 i) ∧ (∀ i, i < 160 → c 28 (100 + i) = r 25 i) ∧ (∀ i, i < 160 → c 28 (260 + i) = r 26 i)
theorem pp31 {M T m : Nat} {gd : cm_D} {gj : cm_J} {c r : jm_M} (hq : q_ok M T r) (hc : q_cc M T c r) (hm : m < M) (F : Nat → Nat → Nat) : ∀ d i (u : Nat → Int64), i + d = M → q_inv M u (fun a b => F a b + (if a = m ∧ b < i then q_ca r a b else 0)) → ∃ u', q_inv M u' (fun a b => F a b + (if a = m ∧ b < M then q_ca r a b else 0)) ∧ ∀ K Post : cm_M → Prop, K (gd, jl_u gj 0 u', c) → vc_X7_prepare_31 (nI m) K Post (d + 1) (nI i) (gd, jl_u gj 0 u, c)
  | 0, i, u, hi, hu => by
    obtain rfl : i = M := by omega
    refine ⟨u, hu, fun K Post hK => ?_⟩
    unfold vc_X7_prepare_31
    rw [show ((gd, jl_u gj 0 u, c) : cm_M).2.2 12 0 = nI i from hc.1]
    exact ⟨fun _ => hK, fun w => absurd (nI_le (Nat.le_refl _) (by have := hq.1; omega)) w⟩
  | d + 1, i, u, hi, hu => by
    have hM := hq.1
    obtain ⟨w1, w2⟩ := hq.2.2.2.2.1 0 (by omega)
    obtain ⟨c1, c2⟩ := hq.2.2.2.2.2.1 (10 * m + i) (by omega)
    obtain ⟨u1, h1, p1⟩ := ap_of (gd := gd) (gj := gj) (c := c) hM hm (show i < M by omega) (q_ca r m i) hu
    obtain ⟨u2, h2, p2⟩ := pp31 (gd := gd) (gj := gj) hq hc hm F d (i + 1) u1 (by omega) (q_inv_ext h1 (fun a b ha hb => by
      show F a b + (if a = m ∧ b < i then q_ca r a b else 0) + (if a = m ∧ b = i then q_ca r m i else 0) = F a b + (if a = m ∧ b < i + 1 then q_ca r a b else 0)
      by_cases e1 : a = m
      · subst e1
        by_cases e2 : b = i
        · subst e2; rw [if_neg (by omega), if_pos ⟨rfl, rfl⟩, if_pos ⟨rfl, by omega⟩]; omega
        · rw [if_neg (show ¬ (a = a ∧ b = i) from fun w => e2 w.2)]
          by_cases e3 : b < i
          · rw [if_pos ⟨rfl, e3⟩, if_pos ⟨rfl, by omega⟩]; omega
          · rw [if_neg (by omega), if_neg (by omega)]
      · rw [if_neg (fun w => e1 w.1), if_neg (fun w => e1 w.1), if_neg (fun w => e1 w.1)]))
    refine ⟨u2, h2, fun K Post hK => ?_⟩
    have ix : nI m * 10 + nI i = nI (10 * m + i) := ij' (k := 10) (by omega)
    have tx : (nI (10 * m + i)).toNatClampNeg = 10 * m + i := tn_nI (by omega)
    have f28 : ((gd, jl_u gj 0 u, c) : cm_M).2.2 28 (10 * m + i) = nI (q_v (r 24 (10 * m + i))) := by show c 28 _ = _; rw [hc.2.2.2.2.1 _ (by omega)]; exact c2
    have f2 : ((gd, jl_u gj 0 u, c) : cm_M).2.2 2 (0 : Int32).toNatClampNeg = nI (q_v (r 31 0)) := by show c 2 0 = _; rw [hc.2.2.2.1 _ (by omega)]; exact w2
    unfold vc_X7_prepare_31
    rw [show ((gd, jl_u gj 0 u, c) : cm_M).2.2 12 0 = nI M from hc.1]
    refine ⟨fun w => absurd w (nI_ge (by omega) (by omega)), fun _ => ⟨fun w => absurd rfl w, fun _ => ?_⟩⟩
    rw [ix]
    show vp_in (nI (10 * m + i)) 420 ∧ vc_X7_addToPair (nI m) (nI i) ((((gd, jl_u gj 0 u, c) : cm_M).2.2 28 (nI (10 * m + i)).toNatClampNeg).toInt64 * (((gd, jl_u gj 0 u, c) : cm_M).2.2 2 (0 : Int32).toNatClampNeg).toInt64) (gd, jl_u gj 0 u, c) _
    rw [tx, f28, f2, nI_l (by omega), nI_l (by omega), lN_mul, Nat.mul_comm (q_v (r 24 (10 * m + i)))]
    refine ⟨vp_in_nI (by omega) (by omega), p1 _ ?_⟩
    rw [nI_1]
    exact p2 K Post hK
theorem pp73 {M T m : Nat} {gd : cm_D} {gj : cm_J} {c r : jm_M} (hq : q_ok M T r) (hc : q_cc M T c r) (hm : m < M) (F : Nat → Nat → Nat) : ∀ d i (u : Nat → Int64), i + d = T → q_inv M u (fun a b => F a b + (if a = m then sS (fun t => if q_v (r 4 t) = b then q_ta r a t else 0) i else 0)) → ∃ u', q_inv M u' (fun a b => F a b + (if a = m then sS (fun t => if q_v (r 4 t) = b then q_ta r a t else 0) T else 0)) ∧ ∀ K Post : cm_M → Prop, K (gd, jl_u gj 0 u', c) → vc_X7_prepare_73 (nI m) K Post (d + 1) (nI i) (gd, jl_u gj 0 u, c)
  | 0, i, u, hi, hu => by
    obtain rfl : i = T := by omega
    refine ⟨u, hu, fun K Post hK => ?_⟩
    unfold vc_X7_prepare_73
    rw [show ((gd, jl_u gj 0 u, c) : cm_M).2.2 13 0 = nI i from hc.2.1]
    exact ⟨fun _ => hK, fun w => absurd (nI_le (Nat.le_refl _) (by have := hq.2.1; omega)) w⟩
  | d + 1, i, u, hi, hu => by
    have hM := hq.1
    have hT := hq.2.1
    obtain ⟨w1, w2⟩ := hq.2.2.2.2.1 1 (by omega)
    obtain ⟨x1, x2⟩ := hq.2.2.2.2.1 2 (by omega)
    obtain ⟨c1, c2⟩ := hq.2.2.2.2.2.2.1 (16 * m + i) (by omega)
    obtain ⟨d1, d2⟩ := hq.2.2.2.2.2.2.2.1 (16 * m + i) (by omega)
    obtain ⟨h1, h2⟩ := hq.2.2.2.1 i (by omega)
    obtain ⟨h, hh⟩ : ∃ h, h = q_v (r 4 i) := ⟨_, rfl⟩
    rw [← hh] at h1 h2
    obtain ⟨u1, g1, p1⟩ := ap_of (gd := gd) (gj := gj) (c := c) hM hm h1 (q_ta r m i) hu
    obtain ⟨u2, g2, p2⟩ := pp73 (gd := gd) (gj := gj) hq hc hm F d (i + 1) u1 (by omega) (q_inv_ext g1 (fun a b ha hb => by
      show F a b + (if a = m then sS (fun t => if q_v (r 4 t) = b then q_ta r a t else 0) i else 0) + (if a = m ∧ b = h then q_ta r m i else 0) = F a b + (if a = m then sS (fun t => if q_v (r 4 t) = b then q_ta r a t else 0) i + (if q_v (r 4 i) = b then q_ta r a i else 0) else 0)
      rw [← hh]
      by_cases e1 : a = m
      · subst e1
        rw [if_pos rfl, if_pos rfl]
        by_cases e2 : b = h
        · subst e2; rw [if_pos ⟨rfl, rfl⟩, if_pos rfl]; omega
        · rw [if_neg (fun w => e2 w.2), if_neg (fun w => e2 w.symm)]; omega
      · rw [if_neg e1, if_neg e1, if_neg (fun w => e1 w.1)]))
    refine ⟨u2, g2, fun K Post hK => ?_⟩
    have ti : (nI i).toNatClampNeg = i := tn_nI (by omega)
    have ix : (100 : Int32) + nI m * 16 + nI i = nI (100 + (16 * m + i)) := by
      rw [show (100 : Int32) = nI 100 from rfl, show (16 : Int32) = nI 16 from rfl, pk_mul, nI_add, nI_add]; congr 1; omega
    have iy : (260 : Int32) + nI m * 16 + nI i = nI (260 + (16 * m + i)) := by
      rw [show (260 : Int32) = nI 260 from rfl, show (16 : Int32) = nI 16 from rfl, pk_mul, nI_add, nI_add]; congr 1; omega
    have tx : (nI (100 + (16 * m + i))).toNatClampNeg = 100 + (16 * m + i) := tn_nI (by omega)
    have ty : (nI (260 + (16 * m + i))).toNatClampNeg = 260 + (16 * m + i) := tn_nI (by omega)
    have f28 : ((gd, jl_u gj 0 u, c) : cm_M).2.2 28 (100 + (16 * m + i)) = nI (q_v (r 25 (16 * m + i))) := by show c 28 _ = _; rw [hc.2.2.2.2.2.1 _ (by omega)]; exact c2
    have g28 : ((gd, jl_u gj 0 u, c) : cm_M).2.2 28 (260 + (16 * m + i)) = nI (q_v (r 26 (16 * m + i))) := by show c 28 _ = _; rw [hc.2.2.2.2.2.2 _ (by omega)]; exact d2
    have f2 : ((gd, jl_u gj 0 u, c) : cm_M).2.2 2 (1 : Int32).toNatClampNeg = nI (q_v (r 31 1)) := by show c 2 1 = _; rw [hc.2.2.2.1 _ (by omega)]; exact w2
    have f3 : ((gd, jl_u gj 0 u, c) : cm_M).2.2 2 (2 : Int32).toNatClampNeg = nI (q_v (r 31 2)) := by show c 2 2 = _; rw [hc.2.2.2.1 _ (by omega)]; exact x2
    have f5 : ((gd, jl_u gj 0 u, c) : cm_M).2.2 5 i = nI h := by show c 5 i = _; rw [hc.2.2.1]; exact h2
    unfold vc_X7_prepare_73
    rw [show ((gd, jl_u gj 0 u, c) : cm_M).2.2 13 0 = nI T from hc.2.1]
    refine ⟨fun w => absurd w (nI_ge (by omega) (by omega)), fun _ => ⟨fun _ => ⟨fun w => absurd rfl w, fun _ => ?_⟩, fun w => absurd w (by decide)⟩⟩
    rw [ix]
    refine ⟨vp_in_nI (by omega) (by omega), nm_e ⟨fun _ => ⟨fun _ => ?_, fun w => absurd w (by decide)⟩, fun w => absurd w (by decide)⟩⟩
    rw [iy]
    refine ⟨vp_in_nI (by omega) (by omega), nm_e ⟨vp_in_nI (by omega) (by omega), ?_⟩⟩
    rw [tx, ty, f28, g28, f2, f3, ti, f5, nI_l (by omega), nI_l (by omega), nI_l (by omega), nI_l (by omega), lN_mul, lN_mul, lN_add, Nat.mul_comm (q_v (r 25 (16 * m + i))), Nat.mul_comm (q_v (r 26 (16 * m + i)))]
    refine p1 _ ?_
    rw [nI_1]
    exact p2 K Post hK
theorem pp18 {M T : Nat} {gd : cm_D} {gj : cm_J} {c r : jm_M} (hq : q_ok M T r) (hc : q_cc M T c r) : ∀ d i (u : Nat → Int64), i + d = M → q_inv M u (fun a b => if a < i then q_E r T a b else 0) → ∃ u', q_inv M u' (q_E r T) ∧ ∀ Post : cm_M → Prop, Post (gd, jl_u gj 0 u', c) → vc_X7_prepare_18 Post (d + 1) (nI i) (gd, jl_u gj 0 u, c)
  | 0, i, u, hi, hu => by
    obtain rfl : i = M := by omega
    refine ⟨u, q_inv_ext hu (fun a b ha hb => if_pos ha), fun Post hK => ?_⟩
    unfold vc_X7_prepare_18
    rw [show ((gd, jl_u gj 0 u, c) : cm_M).2.2 12 0 = nI i from hc.1]
    exact ⟨fun _ => hK, fun w => absurd (nI_le (Nat.le_refl _) (by have := hq.1; omega)) w⟩
  | d + 1, i, u, hi, hu => by
    have hM := hq.1
    have him : i < M := by omega
    obtain ⟨u1, h1, p1⟩ := pp31 (gd := gd) (gj := gj) hq hc him (fun a b => if a < i then q_E r T a b else 0) M 0 u (by omega) (q_inv_ext hu (fun a b ha hb => by rw [if_neg (show ¬ (a = i ∧ b < 0) from fun w => Nat.not_lt_zero b w.2)]; rfl))
    obtain ⟨u2, h2, p2⟩ := pp73 (gd := gd) (gj := gj) hq hc him (fun a b => (if a < i then q_E r T a b else 0) + (if a = i ∧ b < M then q_ca r a b else 0)) T 0 u1 (by omega) (q_inv_ext h1 (fun a b ha hb => by
      show _ = (if a < i then q_E r T a b else 0) + (if a = i ∧ b < M then q_ca r a b else 0) + (if a = i then 0 else 0)
      rw [ite_self]; rfl))
    obtain ⟨u3, h3, p3⟩ := pp18 (gd := gd) (gj := gj) hq hc d (i + 1) u2 (by omega) (q_inv_ext h2 (fun a b ha hb => by
      show (if a < i then q_E r T a b else 0) + (if a = i ∧ b < M then q_ca r a b else 0) + (if a = i then sS (fun t => if q_v (r 4 t) = b then q_ta r a t else 0) T else 0) = (if a < i + 1 then q_E r T a b else 0)
      by_cases e : a = i
      · subst e
        rw [if_neg (Nat.lt_irrefl a), if_pos ⟨rfl, hb⟩, if_pos rfl, if_pos (Nat.lt_succ_self a), Nat.zero_add]; rfl
      · rw [if_neg (show ¬ (a = i ∧ b < M) from fun w => e w.1), if_neg e]
        by_cases e2 : a < i
        · rw [if_pos e2, if_pos (show a < i + 1 by omega)]; rfl
        · rw [if_neg e2, if_neg (show ¬ a < i + 1 by omega)]))
    refine ⟨u3, h3, fun Post hK => ?_⟩
    unfold vc_X7_prepare_18
    rw [show ((gd, jl_u gj 0 u, c) : cm_M).2.2 12 0 = nI M from hc.1]
    refine ⟨fun w => absurd w (nI_ge (by omega) (by omega)), fun _ => ⟨M + 1, p1 _ _ ⟨T + 1, p2 _ _ ?_⟩⟩⟩
    rw [nI_1]
    exact p3 Post hK
theorem fl_of {gd : cm_D} {gj : cm_J} {c : jm_M} (Post : cm_M → Prop) : ∀ d i (u : Nat → Int64), i + d = 100 → (∀ j, j < i → u j = 0) → (∀ u', (∀ j, j < 100 → u' j = 0) → Post (gd, jl_u gj 0 u', c)) → vc_J7_fill_d0a16_6 0 (Int32.ofNat 100) Post (d + 1) (nI i) (gd, jl_u gj 0 u, c)
  | 0, i, u, hi, hu, hp => by
    obtain rfl : i = 100 := by omega
    unfold vc_J7_fill_d0a16_6
    exact ⟨fun _ => hp u hu, fun w => absurd (show Int32.ofNat 100 ≤ nI 100 by decide) w⟩
  | d + 1, i, u, hi, hu, hp => by
    have ti : (nI i).toNatClampNeg = i := tn_nI (by omega)
    unfold vc_J7_fill_d0a16_6
    refine ⟨fun w => absurd w (nI_ge (b := 100) (by omega) (by omega)), fun _ => ⟨vp_in_nI (by omega) (by omega), nm_e ?_⟩⟩
    have e : cm_la (gd, jl_u gj 0 u, c) 0 (nI i) 0 = (gd, jl_u gj 0 (vp_updL u i 0), c) := by
      show (gd, jl_u (jl_u gj 0 u) 0 (vp_updL u (nI i).toNatClampNeg 0), c) = _
      rw [ti, jl_uu]
    rw [e, nI_1]
    refine fl_of Post d (i + 1) _ (by omega) (fun j hj => ?_) hp
    by_cases q : j = i
    · rw [q, pk_uLs]
    · rw [pk_uLn q]; exact hu j (by omega)
theorem prep_of {M T : Nat} {gd : cm_D} {gj : cm_J} {c r : jm_M} (hq : q_ok M T r) (hc : q_cc M T c r) (P : cm_M → Prop) (hp : ∀ gj' : cm_J, q_inv M (gj' 0) (q_E r T) → gj' 1 0 = lN (q_v (r 31 3)) → (∀ k, k ≠ 0 → k ≠ 1 → gj' k = gj k) → P (gd, gj', c)) : vc_X7_prepare (gd, gj, c) P := by
  have hM := hq.1
  obtain ⟨w1, w2⟩ := hq.2.2.2.2.1 3 (by omega)
  have f2 : ((gd, gj, c) : cm_M).2.2 2 (3 : Int32).toNatClampNeg = nI (q_v (r 31 3)) := by show c 2 3 = _; rw [hc.2.2.2.1 _ (by omega)]; exact w2
  obtain ⟨g1, hg1⟩ : ∃ g1 : cm_J, g1 = jl_u gj 1 (vp_updL (gj 1) 0 (lN (q_v (r 31 3)))) := ⟨_, rfl⟩
  unfold vc_X7_prepare
  rw [f2, nI_l (by omega)]
  refine nm_e ?_
  show vc_J7_fill_d0a16 0 (gd, jl_u gj 1 (vp_updL (gj 1) 0 (lN (q_v (r 31 3)))), c) _
  rw [← hg1]
  refine nm_e ⟨101, ?_⟩
  have := fl_of (gd := gd) (gj := g1) (c := c) (fun (g3 : cm_M) => ∃ n20 : Nat, vc_X7_prepare_18 P n20 0 g3) 100 0 (g1 0) (by omega) (fun j hj => absurd hj (Nat.not_lt_zero j)) (fun u hu => by
    obtain ⟨u', h1, p1⟩ := pp18 (gd := gd) (gj := g1) hq hc M 0 u (by omega) (fun a b ha hb hab => by
      show u (10 * a + b) = lN ((if a < 0 then q_E r T a b else 0) + (if b < 0 then q_E r T b a else 0))
      rw [if_neg (Nat.not_lt_zero a), if_neg (Nat.not_lt_zero b), hu _ (by omega)]; rfl)
    exact ⟨M + 1, p1 P (hp _ (by rw [jl_uk]; exact h1) (by rw [jl_un _ _ (by decide), hg1, jl_uk, pk_uLs]) (fun k h0 h1 => by rw [jl_un _ _ h0, hg1, jl_un _ _ h1]))⟩)
  rw [jl_u0] at this
  exact this
def q_bc (a0 : Int32) : Int32 :=
  let y1 := a0 - (((a0.toUInt32 >>> ((1 : Int32).toUInt32 &&& Int32.toUInt32 31)).toInt32) &&& 1431655765)
  let y2 := (y1 &&& 858993459) + (((y1.toUInt32 >>> ((2 : Int32).toUInt32 &&& Int32.toUInt32 31)).toInt32) &&& 858993459)
  let y3 := (y2 + ((y2.toUInt32 >>> ((4 : Int32).toUInt32 &&& Int32.toUInt32 31)).toInt32)) &&& 252645135
  let y4 := y3 + ((y3.toUInt32 >>> ((8 : Int32).toUInt32 &&& Int32.toUInt32 31)).toInt32)
  let y5 := y4 + ((y4.toUInt32 >>> ((16 : Int32).toUInt32 &&& Int32.toUInt32 31)).toInt32)
  y5 &&& 63
theorem bc_all : ∀ y : Fin 64, q_bc (nI y.val) = nI (q_pc y.val) := by decide +kernel
theorem bc_of {y : Nat} (hy : y < 2 ^ 6) (g : cm_M) (P : Int32 → Prop) (hp : P (nI (q_pc y))) : vc_J6_bitCount_0f7a4 (nI y) g P := by
  have h := bc_all ⟨y, hy⟩
  have h2 : q_bc (nI y) = nI (q_pc y) := h
  rw [← h2] at hp
  exact nm_e (nm_e (nm_e (nm_e (nm_e hp))))
theorem ro_loop {M z : Nat} {g : cm_M} {p : Nat → Nat} (hM : M ≤ 10) (c12 : g.2.2 12 0 = nI M) (hp : ∀ a, a < M → p a < 6 ∧ g.2.2 27 a = nI (p a)) (hz : z < 1024) (K Post : Int32 → Prop) (hK : K (nI (q_in z p M))) : ∀ d i, i + d = M → vc_X7_roomsOf_5 (nI z) g K Post (d + 1) (nI (q_in z p i)) (nI i)
  | 0, i, hi => by
    obtain rfl : i = M := by omega
    unfold vc_X7_roomsOf_5
    rw [c12]
    exact ⟨fun _ => hK, fun w => absurd (nI_le (Nat.le_refl _) (by omega)) w⟩
  | d + 1, i, hi => by
    have ti : (nI i).toNatClampNeg = i := tn_nI (by omega)
    obtain ⟨hi6, ei⟩ := hp i (by omega)
    have main := ro_loop hM c12 hp hz K Post hK d (i + 1) (by omega)
    have e : q_in z p (i + 1) = if z.testBit i = true then q_in z p i ||| 2 ^ p i else q_in z p i := rfl
    have e0 := nI_bit (n := z) (i := i) (by omega) (by omega)
    unfold vc_X7_roomsOf_5
    rw [c12, e0, ti, ei, nI_shl1 (by omega), nI_or]
    refine ⟨fun w => absurd w (nI_ge (by omega) (by omega)), fun _ => ⟨fun w => ?_, fun w => ⟨vp_in_nI (by omega) (by omega), nm_e ?_⟩⟩⟩
    · rw [e, if_neg (by rw [w]; decide)] at main
      rw [nI_1]; exact main
    · rw [e, if_pos (by cases h : z.testBit i with | true => rfl | false => exact absurd h w)] at main
      rw [nI_1]; exact main
theorem ro_of {M z : Nat} {g : cm_M} {p : Nat → Nat} (hM : M ≤ 10) (c12 : g.2.2 12 0 = nI M) (hp : ∀ a, a < M → p a < 6 ∧ g.2.2 27 a = nI (p a)) (hz : z < 1024) (P : Int32 → Prop) (hP : P (nI (q_mn z p M))) : vc_X7_roomsOf (nI z) g P := by
  refine ⟨M + 1, ro_loop hM c12 hp hz _ _ ?_ M 0 (by omega)⟩
  refine bc_of (in_lt M (fun a ha => (hp a ha).1)) g _ ?_
  rw [pc_in M (fun a ha => (hp a ha).1)]; exact hP
theorem of20 {M T m : Nat} {g : cm_M} {r : jm_M} {p : Nat → Nat} (hM : M ≤ 10) (hm : m < M) (hp : ∀ a, a < M → p a < 6 ∧ g.2.2 27 a = nI (p a)) (hi0 : q_inv M (g.2.1 0) (q_E r T)) (X : Nat) (K Post : Int64 → Prop) (hK : K (lN (X + q_ae r T p m))) : ∀ d i, i + d = m → vc_X7_of_20 (nI m) g K Post (d + 1) (lN (X + sS (fun b => if p m = p b then 0 else q_E r T m b + q_E r T b m) i)) (nI i)
  | 0, i, hi => by
    obtain rfl : i = m := by omega
    unfold vc_X7_of_20
    exact ⟨fun _ => hK, fun w => absurd (nI_le (Nat.le_refl _) (by omega)) w⟩
  | d + 1, i, hi => by
    have tm : (nI m).toNatClampNeg = m := tn_nI (by omega)
    have ti : (nI i).toNatClampNeg = i := tn_nI (by omega)
    have ix : nI m * 10 + nI i = nI (10 * m + i) := ij' (k := 10) (by omega)
    have tx : (nI (10 * m + i)).toNatClampNeg = 10 * m + i := tn_nI (by omega)
    obtain ⟨hm6, em⟩ := hp m hm
    obtain ⟨hi6, ei⟩ := hp i (by omega)
    have eo : nI (p m) = nI (p i) ↔ p m = p i := nI_eq (by omega) (by omega)
    have main := of20 hM hm hp hi0 X K Post hK d (i + 1) (by omega)
    have es : sS (fun b => if p m = p b then 0 else q_E r T m b + q_E r T b m) (i + 1) = sS (fun b => if p m = p b then 0 else q_E r T m b + q_E r T b m) i + (if p m = p i then 0 else q_E r T m i + q_E r T i m) := rfl
    unfold vc_X7_of_20
    rw [tm, ti, em, ei, ix, tx, hi0 m i hm (by omega) (by omega), lN_add]
    refine ⟨fun w => absurd w (nI_ge (by omega) (by omega)), fun _ => ⟨vp_in_nI (by omega) (by omega), vp_in_nI (by omega) (by omega), fun w => ?_, fun w => ⟨vp_in_nI (by omega) (by omega), nm_e ?_⟩⟩⟩
    · rw [es, if_pos (eo.mp w), Nat.add_zero] at main
      rw [nI_1]; exact main
    · rw [es, if_neg (fun e => w (eo.mpr e)), ← Nat.add_assoc] at main
      rw [nI_1]; exact main
theorem of5 {M T : Nat} {g : cm_M} {r : jm_M} {p : Nat → Nat} (hM : M ≤ 10) (c12 : g.2.2 12 0 = nI M) (hp : ∀ a, a < M → p a < 6 ∧ g.2.2 27 a = nI (p a)) (hi0 : q_inv M (g.2.1 0) (q_E r T)) (K Post : Int64 → Prop) (hK : K (lN (sS (q_ae r T p) M))) : ∀ d i, i + d = M → vc_X7_of_5 g K Post (d + 1) (lN (sS (q_ae r T p) i)) (nI i)
  | 0, i, hi => by
    obtain rfl : i = M := by omega
    unfold vc_X7_of_5
    rw [c12]
    exact ⟨fun _ => hK, fun w => absurd (nI_le (Nat.le_refl _) (by omega)) w⟩
  | d + 1, i, hi => by
    have main := of5 hM c12 hp hi0 K Post hK d (i + 1) (by omega)
    unfold vc_X7_of_5
    rw [c12]
    refine ⟨fun w => absurd w (nI_ge (by omega) (by omega)), fun _ => ⟨i + 1, of20 hM (by omega) hp hi0 _ _ _ ?_ i 0 (by omega)⟩⟩
    rw [nI_1]; exact main
theorem of69 {B M : Nat} {g : cm_M} {p : Nat → Nat} {w3 : Nat} (hB : B ≤ 512) (hM : M ≤ 10) (c12 : g.2.2 12 0 = nI M) (hp : ∀ a, a < M → p a < 6 ∧ g.2.2 27 a = nI (p a)) (hw : g.2.1 1 0 = lN w3) {K : Nat} (c36 : g.2.2 36 0 = nI K) (hK0 : K ≤ g.1.2.1 0) (hn : g.1.2.1 0 ≤ 1024) (hn1 : g.1.2.1 1 = g.1.2.1 0) (hz : ∀ i, i < K → ∃ z y : Nat, z < 1024 ∧ g.2.2 34 i = nI z ∧ y ≤ B ∧ g.2.2 35 i = nI y) (X : Nat) (Post : Int64 → Prop) (hP : Post (lN (X + sS (fun i => q_v (g.2.2 35 i) * w3 * (q_mn (q_v (g.2.2 34 i)) p M - 1)) K))) : ∀ d i, i + d = K → vc_X7_of_69 g Post (d + 1) (lN (X + sS (fun i => q_v (g.2.2 35 i) * w3 * (q_mn (q_v (g.2.2 34 i)) p M - 1)) i)) (nI i)
  | 0, i, hi => by
    obtain rfl : i = K := by omega
    unfold vc_X7_of_69
    rw [c36]
    exact ⟨fun _ => hP, fun w => absurd (nI_le (Nat.le_refl _) (by omega)) w⟩
  | d + 1, i, hi => by
    have ti : (nI i).toNatClampNeg = i := tn_nI (by omega)
    obtain ⟨z, y, h1, h2, h3, h4⟩ := hz i (by omega)
    have main := of69 hB hM c12 hp hw c36 hK0 hn hn1 hz X Post hP d (i + 1) (by omega)
    have es : sS (fun i => q_v (g.2.2 35 i) * w3 * (q_mn (q_v (g.2.2 34 i)) p M - 1)) (i + 1) = sS (fun i => q_v (g.2.2 35 i) * w3 * (q_mn (q_v (g.2.2 34 i)) p M - 1)) i + y * w3 * (q_mn z p M - 1) := by
      show _ + q_v (g.2.2 35 i) * w3 * (q_mn (q_v (g.2.2 34 i)) p M - 1) = _
      rw [h2, h4, v_nI (by omega), v_nI (by omega)]
    have hmn := mn_le z p M
    have emax : (if (0 : Int32) < nI (q_mn z p M) - 1 then nI (q_mn z p M) - 1 else (0 : Int32)) = nI (q_mn z p M - 1) := by
      rcases Nat.eq_zero_or_pos (q_mn z p M) with e | e
      · rw [e]; decide
      · rw [show nI (q_mn z p M) - 1 = nI (q_mn z p M - 1) from pk_sub (b := 1) e]
        rcases Nat.eq_zero_or_pos (q_mn z p M - 1) with e2 | e2
        · rw [e2]; decide
        · exact if_pos (nI_lt (a := 0) e2 (by omega))
    unfold vc_X7_of_69
    rw [c36, ti, h2]
    refine ⟨fun w => absurd w (nI_ge (by omega) (by omega)), fun _ => ⟨vp_in_nI (by omega) (by omega), ro_of hM c12 hp h1 _ ?_⟩⟩
    rw [emax, h4, hw]
    refine nm_e ⟨vp_in_nI (by omega) (by omega), nm_e ?_⟩
    rw [nI_l (by omega), nI_l (by omega), lN_mul, lN_mul, lN_add, nI_1]
    rw [es, ← Nat.add_assoc] at main
    exact main
/-- the class's sets give the reference's sum -/
theorem ps_of {B : Nat} {n : Nat → Nat} {c r : jm_M} (hS : b_S B n c r) (hB : B ≤ 512) (p : Nat → Nat) (m : Nat) : ∃ K : Nat, c 36 0 = nI K ∧ K ≤ n 0 ∧ n 0 ≤ 1024 ∧ n 1 = n 0 ∧ (∀ i, i < K → ∃ z y : Nat, z < 1024 ∧ c 34 i = nI z ∧ y ≤ B ∧ c 35 i = nI y) ∧ q_ps r p m = sS (fun i => q_v (c 35 i) * q_v (r 31 3) * (q_mn (q_v (c 34 i)) p m - 1)) K := by
  obtain ⟨K, e, s1, s2, s3, s4, s5, s6, s7, s8⟩ := hS
  refine ⟨K, s1, s2, s4, s5, fun i hi => ?_, ?_⟩
  · obtain ⟨z, y, a1, a2, a3, a4, a5⟩ := s6 i hi
    exact ⟨z, y, a1, a2, a3, a4⟩
  · refine ps_list (mask := fun i => q_v (c 34 i)) (acts := fun i => q_v (c 35 i)) (sets := fun z => q_v (r 27 z)) (F := fun z => q_mn z p m - 1) (q_v (r 31 3)) (fun i hi => ?_) (fun i hi h0 => ?_) (fun i j hij hj e2 => ?_) (fun z hz hz2 h => ?_) ?_
    · obtain ⟨z, y, a1, a2, a3, a4, a5⟩ := s6 i hi
      show q_v (c 34 i) < 1024
      rw [a2, v_nI (by omega)]; exact a1
    · obtain ⟨z, y, a1, a2, a3, a4, a5⟩ := s6 i hi
      have h0' : q_v (c 34 i) ≠ 0 := h0
      show q_v (r 27 (q_v (c 34 i))) = q_v (c 35 i)
      rw [a2, v_nI (by omega)] at h0' ⊢
      rw [a5 h0', a4]
    · obtain ⟨z, y, a1, a2, -⟩ := s6 i (by omega)
      obtain ⟨z2, y2, b1, b2, -⟩ := s6 j hj
      have e3 : q_v (c 34 i) = q_v (c 34 j) := e2
      rw [a2, b2, v_nI (by omega), v_nI (by omega)] at e3
      exact s7 i j hij hj (by rw [a2, b2, e3])
    · show q_v (r 27 z) = 0
      rw [s8 z hz hz2 (fun i hi e2 => h i hi (by show q_v (c 34 i) = z; rw [e2, v_nI (by omega)]))]
      rfl
    · show q_mn 0 p m - 1 = 0
      rw [mn_0]
theorem of_of {B M T : Nat} {g : cm_M} {r : jm_M} {p : Nat → Nat} (hB : B ≤ 512) (hM : M ≤ 10) (c12 : g.2.2 12 0 = nI M) (hp : ∀ a, a < M → p a < 6 ∧ g.2.2 27 a = nI (p a)) (hi0 : q_inv M (g.2.1 0) (q_E r T)) (hw : g.2.1 1 0 = lN (q_v (r 31 3))) (hS : b_S B g.1.2.1 g.2.2 r) (P : Int64 → Prop) (hP : P (lN (q_pr r T p M))) : vc_X7_of g P := by
  obtain ⟨K, k1, k2, k3, k4, k5, k6⟩ := ps_of hS hB p M
  have tail : ∃ n12 : Nat, vc_X7_of_69 g P n12 (lN (q_pe r T p M)) 0 := by
    refine ⟨K + 1, ?_⟩
    have := of69 hB hM c12 hp hw k1 k2 k3 k4 k5 (q_pe r T p M) P (by rw [← k6]; exact hP) K 0 (by omega)
    exact this
  rcases Nat.eq_zero_or_pos M with h0 | h0
  · subst h0
    refine ⟨1, ?_⟩
    unfold vc_X7_of_5
    rw [c12]
    exact ⟨fun _ => tail, fun w => absurd (by decide) w⟩
  · obtain ⟨d, hd⟩ : ∃ d, 1 + d = M := ⟨M - 1, by omega⟩
    refine ⟨d + 1, ?_⟩
    have := of5 (T := T) (r := r) hM c12 hp hi0 (fun (y7 : Int64) => ∃ n12 : Nat, vc_X7_of_69 g P n12 y7 0) P (by rw [← pe_sum]; exact tail) d 1 hd
    exact this
theorem q_cc_of {B M T N : Nat} {n : Nat → Nat} {c r : jm_M} (hT : b_T M T N c r) (hH : b_H B T n c r) (hP : b_P M c r) : q_cc M T c r := by
  obtain ⟨hM, hT16, hN, c12, r1, c13, r3, c14, r5, e4, e5, e6⟩ := hT
  obtain ⟨hy, hr, ⟨k1, k2, k3, k4⟩, hu⟩ := hH
  exact ⟨c12, c13, e5, hP.1, k1, k2, k3⟩
theorem op_price {B : Nat} {gC : cm_M} {gR : jm_M} (h : b_R B gC gR) (hB : B ≤ 512) : ∃ x : Int64, (∀ P : Int64 → cm_M → Prop, (∀ g, b_R B g gR → P x g) → vc_X10_price gC P) ∧ (∀ P : Int64 → Prop, P x → vr_price gR P) := by
  obtain ⟨M, T, N, hT, hX, ht, hH, hW, hP, hA, hI⟩ := id h
  have hq := q_ok_of hB hT hX hH hP
  have hc := q_cc_of hT hH hP
  obtain ⟨hM, hT16, hN, c12, r1, c13, r3, c14, r5, e4, e5, e6, e7, e8, e9, e10⟩ := id hT
  obtain ⟨gd, gj, c⟩ := gC
  obtain ⟨hy, ⟨hr1, hr2⟩, hk, hu, hS, hL⟩ := id hH
  have hp : ∀ a, a < M → q_v (gR 30 a) < 6 ∧ gR 30 a = nI (q_v (gR 30 a)) := fun a ha => by
    obtain ⟨z, hz, ez⟩ := hr2 a (by omega)
    rw [ez, v_nI (by omega)]; exact ⟨hz, rfl⟩
  refine ⟨lN (q_pr gR T (fun a => q_v (gR 30 a)) M), fun P hp2 => ?_, fun P hp2 => ?_⟩
  · refine prep_of hq hc _ (fun gj' h1 h2 h3 => ?_)
    refine of_of (g := (gd, gj', c)) (T := T) (r := gR) (p := fun a => q_v (gR 30 a)) hB hM c12 (fun a ha => ⟨(hp a ha).1, ?_⟩) h1 h2 hS _ (hp2 _ ⟨M, T, N, hT, hX, ht, hH, hW, hP, hA, hI⟩)
    show c 27 a = _
    rw [show c 27 a = gR 30 a from hr1 a (by omega)]
    exact (hp a ha).2
  · unfold vr_price
    rw [r1]
    exact prR hq (Nat.le_refl M) hp _ hp2
