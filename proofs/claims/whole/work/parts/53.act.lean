/-! what an act in the old house leaves -/
theorem b_S_mono {B B2 : Nat} (hB : B ≤ B2) {n : Nat → Nat} {c r : jm_M} (h : b_S B n c r) : b_S B2 n c r := by
  obtain ⟨K, e, h1, h2, h3, h4, h5, h6, h7⟩ := h
  refine ⟨K, e, h1, h2, h3, h4, h5, fun i hi => ?_, h7⟩
  obtain ⟨z, y, a1, a2, a3, a4⟩ := h6 i hi
  exact ⟨z, y, a1, a2, by omega, a4⟩
theorem b_H_mono {B B2 T : Nat} (hB : B ≤ B2) {n : Nat → Nat} {c r : jm_M} (h : b_H B T n c r) : b_H B2 T n c r := by
  obtain ⟨h1, h2, ⟨k1, k2, k3, k4⟩, h4, h5, h6⟩ := h
  refine ⟨h1, h2, ⟨k1, k2, k3, fun i hi => ?_⟩, h4, b_S_mono hB h5, h6⟩
  obtain ⟨z, a1, a2⟩ := k4 i hi
  exact ⟨z, Nat.le_trans a1 (Nat.mul_le_mul_left 300 hB), a2⟩
theorem b_I_mono {B B2 : Nat} (hB : B ≤ B2) {d : cm_D} {c r : jm_M} (h : b_I B d c r) : b_I B2 d c r := by
  intro i hi
  rcases h i hi with q | ⟨a, q1, q2, q3, q4, T, q5, q6, q7⟩
  · exact Or.inl q
  · exact Or.inr ⟨a, q1, q2, q3, q4, T, q5, q6, b_H_mono hB q7⟩
theorem b_R_mono {B B2 : Nat} (hB : B ≤ B2) {gC : cm_M} {gR : jm_M} (h : b_R B gC gR) : b_R B2 gC gR := by
  obtain ⟨M, T, N, hT, hX, ht, hH, hW, hP, hA, hI⟩ := h
  exact ⟨M, T, N, hT, hX, ht, b_H_mono hB hH, hW, hP, hA, b_I_mono hB hI⟩
/-- the homes written, as a set of bits -/
def b_mask (r : jm_M) (xs : List Nat) : Nat := xs.foldl (fun m z => m ||| 2 ^ (r 4 (z / 8)).toNatClampNeg) 0
theorem b_mask_add (r : jm_M) (xs : List Nat) (z : Nat) : b_mask r (xs ++ [z]) = b_mask r xs ||| 2 ^ (r 4 (z / 8)).toNatClampNeg := by
  unfold b_mask; rw [List.foldl_append]; rfl
theorem b_mask_lt {T : Nat} {r : jm_M} (h4 : ∀ i, i < T → ∃ h : Nat, h < 10 ∧ r 4 i = nI h) (xs : List Nat) (hx : ∀ z, z ∈ xs → z < 8 * T) : b_mask r xs < 1024 := by
  have main : ∀ (xs : List Nat) (m : Nat), m < 2 ^ 10 → (∀ z, z ∈ xs → z < 8 * T) → xs.foldl (fun m z => m ||| 2 ^ (r 4 (z / 8)).toNatClampNeg) m < 2 ^ 10 := by
    intro xs
    induction xs with
    | nil => intro m hm _; exact hm
    | cons x xs ih =>
      intro m hm hx
      refine ih _ (or_lt hm ?_) (fun z hz => hx z (List.mem_cons_of_mem _ hz))
      obtain ⟨h, hh, eh⟩ := h4 (x / 8) (by have := hx x List.mem_cons_self; omega)
      rw [eh, tn_nI (by omega)]
      exact Nat.pow_lt_pow_right (by omega) hh
  exact main xs 0 (by omega) hx
theorem take_s {xs : List Nat} {i : Nat} (hi : i < xs.length) : xs.take (i + 1) = xs.take i ++ [xs.getD i 0] := by
  rw [List.take_succ, List.getD_eq_getElem?_getD, List.getElem?_eq_getElem hi]; rfl
theorem shl_home {r : jm_M} {t h : Nat} (hh : h < 10) (e : r 4 t = nI h) : (1 : Int32) <<< (r 4 t &&& 31) = nI (2 ^ (r 4 t).toNatClampNeg) := by
  rw [e, tn_nI (by omega)]; exact nI_shl1 (by omega)
/-- class: what was written goes into the old house, its homes are gathered -/
theorem ko1 {T : Nat} {gd : cm_D} {gj : cm_J} {c r : jm_M} {W : List Nat} (hT16 : T ≤ 16) (h4 : ∀ i, i < T → ∃ h : Nat, h < 10 ∧ r 4 i = nI h) (e5 : c 5 = r 4) (hW : ∀ z, z ∈ W → z < 8 * T) (hl : W.length ≤ 128) (e21 : c 21 0 = nI W.length) (e17 : ∀ j, j < W.length → c 17 j = nI (W.getD j 0)) (MC MS : Nat) : ∀ d i (u : Nat → Int32), i + d = W.length → (∀ x, x < 128 → u x = if x ∈ W.take i then c 15 x else c 25 x) → ∃ u' : Nat → Int32, (∀ x, x < 128 → u' x = if x ∈ W then c 15 x else c 25 x) ∧ ∀ (K : Int32 → cm_M → Prop) (Post : cm_M → Prop), K (nI (b_mask r W)) (gd, gj, jm_u c 25 u') → vc_X4_keepOld_5 MC MS K Post (d + 1) (nI (b_mask r (W.take i))) (nI i) (gd, gj, jm_u c 25 u)
  | 0, i, u, hi, hu => by
    obtain rfl : i = W.length := by omega
    rw [List.take_length] at hu ⊢
    refine ⟨u, hu, fun K Post hp => ?_⟩
    have f21 : ((gd, gj, jm_u c 25 u) : cm_M).2.2 21 0 = nI W.length := e21
    unfold vc_X4_keepOld_5
    rw [f21]
    exact ⟨fun _ => hp, fun w => absurd (nI_le (Nat.le_refl _) (by omega)) w⟩
  | d + 1, i, u, hi, hu => by
    have hi2 : i < W.length := by omega
    obtain ⟨z, hz⟩ : ∃ z, z = W.getD i 0 := ⟨_, rfl⟩
    have hzW : z ∈ W := by rw [hz]; exact gd_mem hi2
    have hz8 := hW z hzW
    have t1 : (nI i).toNatClampNeg = i := tn_nI (by omega)
    have tz : (nI z).toNatClampNeg = z := tn_nI (by omega)
    have f21 : ((gd, gj, jm_u c 25 u) : cm_M).2.2 21 0 = nI W.length := e21
    have f17 : ((gd, gj, jm_u c 25 u) : cm_M).2.2 17 i = nI z := by rw [hz]; exact e17 i hi2
    have ed : nI z / 8 = nI (z / 8) := pk_div (d := 8) (by omega) (by omega) (by omega)
    have td : (nI (z / 8)).toNatClampNeg = z / 8 := tn_nI (by omega)
    obtain ⟨h, hh, eh⟩ := h4 (z / 8) (by omega)
    have hts : W.take (i + 1) = W.take i ++ [z] := by rw [hz]; exact take_s hi2
    obtain ⟨u', h1, h2⟩ := ko1 (gd := gd) (gj := gj) hT16 h4 e5 hW hl e21 e17 MC MS d (i + 1) (upd u z (c 15 z)) (by omega) (fun x hx => by
      rw [hts]
      by_cases q : x = z
      · subst q; rw [pk_us]; simp
      · rw [pk_un q, hu x hx]; simp [q])
    refine ⟨u', h1, fun K Post hp => ?_⟩
    have main := h2 K Post hp
    rw [hts, b_mask_add] at main
    unfold vc_X4_keepOld_5
    rw [f21, t1, f17]
    refine ⟨fun w => absurd w (nI_ge hi2 (by omega)), fun _ => ⟨vp_in_nI (by omega) (by omega), nm_e ⟨vp_in_nI (by omega) (by omega), vp_in_nI (by omega) (by omega), nm_e ?_⟩⟩⟩
    have e : cm_a (gd, gj, jm_u c 25 u) 25 (nI z) (((gd, gj, jm_u c 25 u) : cm_M).2.2 15 (nI z).toNatClampNeg) = (gd, gj, jm_u c 25 (upd u z (c 15 z))) := by
      show (gd, gj, jm_u (jm_u c 25 u) 25 (upd u (nI z).toNatClampNeg (c 15 (nI z).toNatClampNeg))) = _
      rw [jm_uu, tz]
    rw [e, ed]
    refine ⟨vp_in_nI (by omega) (by omega), nm_e ?_⟩
    have f5 : ((gd, gj, jm_u c 25 (upd u z (c 15 z))) : cm_M).2.2 5 = r 4 := e5
    rw [f5, td, shl_home hh eh, nI_or, nI_1]
    exact main
/-- class: the ties made are counted -/
theorem ko2 {gd : cm_D} {gj : cm_J} {c : jm_M} {Q : List Nat} (hl : Q.length ≤ 300) (hQ : ∀ p, p ∈ Q → p < 420) (e22 : c 22 0 = nI Q.length) (e18 : ∀ j, j < Q.length → c 18 j = nI (Q.getD j 0)) (MC MS : Nat) (x3 : Int32) (zz : Nat → Nat) : ∀ d i (u : Nat → Int32), i + d = Q.length → (∀ p, p < 420 → u p = nI (zz p + (Q.take i).count p)) → ∃ u' : Nat → Int32, (∀ p, p < 420 → u' p = nI (zz p + Q.count p)) ∧ ∀ (K : cm_M → Prop) (Post : cm_M → Prop), K (gd, gj, jm_u c 28 u') → vc_X4_keepOld_61 MC MS x3 K Post (d + 1) (nI i) (gd, gj, jm_u c 28 u)
  | 0, i, u, hi, hu => by
    obtain rfl : i = Q.length := by omega
    rw [List.take_length] at hu
    refine ⟨u, hu, fun K Post hp => ?_⟩
    have f22 : ((gd, gj, jm_u c 28 u) : cm_M).2.2 22 0 = nI Q.length := e22
    unfold vc_X4_keepOld_61
    rw [f22]
    exact ⟨fun _ => hp, fun w => absurd (nI_le (Nat.le_refl _) (by omega)) w⟩
  | d + 1, i, u, hi, hu => by
    have hi2 : i < Q.length := by omega
    obtain ⟨z, hz⟩ : ∃ z, z = Q.getD i 0 := ⟨_, rfl⟩
    have hzQ : z ∈ Q := by rw [hz]; exact gd_mem hi2
    have hz8 := hQ z hzQ
    have t1 : (nI i).toNatClampNeg = i := tn_nI (by omega)
    have tz : (nI z).toNatClampNeg = z := tn_nI (by omega)
    have f22 : ((gd, gj, jm_u c 28 u) : cm_M).2.2 22 0 = nI Q.length := e22
    have f18 : ((gd, gj, jm_u c 28 u) : cm_M).2.2 18 i = nI z := by rw [hz]; exact e18 i hi2
    have hts : Q.take (i + 1) = Q.take i ++ [z] := by rw [hz]; exact take_s hi2
    obtain ⟨u', h1, h2⟩ := ko2 (gd := gd) (gj := gj) hl hQ e22 e18 MC MS x3 zz d (i + 1) (upd u z (u z + 1)) (by omega) (fun p hp => by
      rw [hts, cnt_app]
      by_cases q : p = z
      · subst q; rw [pk_us, hu p hp, nI_1, if_pos rfl]; rfl
      · rw [pk_un q, hu p hp, if_neg (fun w => q w.symm)]; rfl)
    refine ⟨u', h1, fun K Post hp => ?_⟩
    have main := h2 K Post hp
    unfold vc_X4_keepOld_61
    rw [f22, t1, f18]
    refine ⟨fun w => absurd w (nI_ge hi2 (by omega)), fun _ => ⟨vp_in_nI (by omega) (by omega), vp_in_nI (by omega) (by omega), vp_in_nI (by omega) (by omega), nm_e ?_⟩⟩
    have e : cm_a (gd, gj, jm_u c 28 u) 28 (nI z) (((gd, gj, jm_u c 28 u) : cm_M).2.2 28 (nI z).toNatClampNeg + 1) = (gd, gj, jm_u c 28 (upd u z (u z + 1))) := by
      show (gd, gj, jm_u (jm_u c 28 u) 28 (upd u (nI z).toNatClampNeg (u (nI z).toNatClampNeg + 1))) = _
      rw [jm_uu, tz]
    rw [e, nI_1]
    exact main
/-- reference: the whole house is copied -/
theorem ro1 {r : jm_M} : ∀ d i (u : Nat → Int32), i + d = 128 → (∀ x, x < i → u x = r 13 x) → ∃ u' : Nat → Int32, (∀ x, x < 128 → u' x = r 13 x) ∧ ∀ (K : jm_M → Prop) (Post : Int32 → jm_M → Prop), K (jm_u r 11 u') → vr_runOld_26 K Post (d + 1) (nI i) (jm_u r 11 u)
  | 0, i, u, hi, hu => by
    obtain rfl : i = 128 := by omega
    exact ⟨u, hu, fun K Post hp => ⟨fun _ => hp, fun w => absurd (by decide) w⟩⟩
  | d + 1, i, u, hi, hu => by
    have t1 : (nI i).toNatClampNeg = i := tn_nI (by omega)
    have i1 : vp_in (nI i) 128 := vp_in_nI (by omega) (by omega)
    obtain ⟨u', h1, h2⟩ := ro1 (r := r) d (i + 1) (upd u i (r 13 i)) (by omega) (fun j hj => by
      by_cases q : j = i
      · subst q; rw [pk_us]
      · rw [pk_un q]; exact hu j (by omega))
    refine ⟨u', h1, fun K Post hp => ?_⟩
    unfold vr_runOld_26
    refine ⟨fun w => absurd w (nI_ge (b := 128) (by omega) (by omega)), fun _ => ⟨i1, i1, nm_e ?_⟩⟩
    have e : jm_a (jm_u r 11 u) 11 (nI i) ((jm_u r 11 u) 13 (nI i).toNatClampNeg) = jm_u r 11 (upd u i (r 13 i)) := by
      show jm_u (jm_u r 11 u) 11 (upd u (nI i).toNatClampNeg (r 13 (nI i).toNatClampNeg)) = _
      rw [jm_uu, t1]
    rw [e, nI_1]
    exact h2 K Post hp
theorem ro2 {r : jm_M} : ∀ d i (u : Nat → Int32), i + d = 100 → (∀ x, x < i → u x = r 24 x + r 14 x) → (∀ x, i ≤ x → u x = r 24 x) → ∃ u' : Nat → Int32, (∀ x, x < 100 → u' x = r 24 x + r 14 x) ∧ ∀ (K : jm_M → Prop) (Post : Int32 → jm_M → Prop), K (jm_u r 24 u') → vr_runOld_53 K Post (d + 1) (nI i) (jm_u r 24 u)
  | 0, i, u, hi, hu, hu2 => by
    obtain rfl : i = 100 := by omega
    exact ⟨u, hu, fun K Post hp => ⟨fun _ => hp, fun w => absurd (by decide) w⟩⟩
  | d + 1, i, u, hi, hu, hu2 => by
    have t1 : (nI i).toNatClampNeg = i := tn_nI (by omega)
    have i1 : vp_in (nI i) 100 := vp_in_nI (by omega) (by omega)
    obtain ⟨u', h1, h2⟩ := ro2 (r := r) d (i + 1) (upd u i (u i + r 14 i)) (by omega) (fun j hj => by
      by_cases q : j = i
      · subst q; rw [pk_us, hu2 j (Nat.le_refl j)]
      · rw [pk_un q]; exact hu j (by omega)) (fun j hj => by rw [pk_un (by omega)]; exact hu2 j (by omega))
    refine ⟨u', h1, fun K Post hp => ?_⟩
    unfold vr_runOld_53
    refine ⟨fun w => absurd w (nI_ge (b := 100) (by omega) (by omega)), fun _ => ⟨i1, i1, i1, nm_e ?_⟩⟩
    have e : jm_a (jm_u r 24 u) 24 (nI i) ((jm_u r 24 u) 24 (nI i).toNatClampNeg + (jm_u r 24 u) 14 (nI i).toNatClampNeg) = jm_u r 24 (upd u i (u i + r 14 i)) := by
      show jm_u (jm_u r 24 u) 24 (upd u (nI i).toNatClampNeg (u (nI i).toNatClampNeg + r 14 (nI i).toNatClampNeg)) = _
      rw [jm_uu, t1]
    rw [e, nI_1]
    exact h2 K Post hp
theorem ro3 {r : jm_M} : ∀ d i (u v : Nat → Int32), i + d = 160 → (∀ x, x < i → u x = r 25 x + r 15 x ∧ v x = r 26 x + r 16 x) → (∀ x, i ≤ x → u x = r 25 x ∧ v x = r 26 x) → ∃ u' v' : Nat → Int32, (∀ x, x < 160 → u' x = r 25 x + r 15 x ∧ v' x = r 26 x + r 16 x) ∧ ∀ (K : jm_M → Prop) (Post : Int32 → jm_M → Prop), K (jm_u (jm_u r 25 u') 26 v') → vr_runOld_82 K Post (d + 1) (nI i) (jm_u (jm_u r 25 u) 26 v)
  | 0, i, u, v, hi, hu, hu2 => by
    obtain rfl : i = 160 := by omega
    exact ⟨u, v, hu, fun K Post hp => ⟨fun _ => hp, fun w => absurd (by decide) w⟩⟩
  | d + 1, i, u, v, hi, hu, hu2 => by
    have t1 : (nI i).toNatClampNeg = i := tn_nI (by omega)
    have i1 : vp_in (nI i) 160 := vp_in_nI (by omega) (by omega)
    obtain ⟨u', v', h1, h2⟩ := ro3 (r := r) d (i + 1) (upd u i (u i + r 15 i)) (upd v i (v i + r 16 i)) (by omega) (fun j hj => by
      by_cases q : j = i
      · subst q; rw [pk_us, pk_us, (hu2 j (Nat.le_refl j)).1, (hu2 j (Nat.le_refl j)).2]; exact ⟨rfl, rfl⟩
      · rw [pk_un q, pk_un q]; exact hu j (by omega)) (fun j hj => by rw [pk_un (by omega), pk_un (by omega)]; exact hu2 j (by omega))
    refine ⟨u', v', h1, fun K Post hp => ?_⟩
    unfold vr_runOld_82
    refine ⟨fun w => absurd w (nI_ge (b := 160) (by omega) (by omega)), fun _ => ⟨i1, i1, i1, nm_e ⟨i1, i1, i1, nm_e ?_⟩⟩⟩
    have e : ∀ g12, g12 = jm_a (jm_u (jm_u r 25 u) 26 v) 25 (nI i) ((jm_u (jm_u r 25 u) 26 v) 25 (nI i).toNatClampNeg + (jm_u (jm_u r 25 u) 26 v) 15 (nI i).toNatClampNeg) → jm_a g12 26 (nI i) (g12 26 (nI i).toNatClampNeg + g12 16 (nI i).toNatClampNeg) = jm_u (jm_u r 25 (upd u i (u i + r 15 i))) 26 (upd v i (v i + r 16 i)) := by
      intro g12 hg
      subst hg
      funext x
      by_cases w : x = 26
      · subst w; show upd v (nI i).toNatClampNeg (v (nI i).toNatClampNeg + r 16 (nI i).toNatClampNeg) = _; rw [t1]; rfl
      · by_cases w2 : x = 25
        · subst w2; show upd u (nI i).toNatClampNeg (u (nI i).toNatClampNeg + r 15 (nI i).toNatClampNeg) = _; rw [t1]; rfl
        · unfold jm_a
          rw [jm_un _ _ w, jm_un _ _ w2, jm_un _ _ w, jm_un _ _ w2, jm_un _ _ w, jm_un _ _ w2]
    rw [e _ rfl, nI_1]
    exact h2 K Post hp
/-- reference: the homes written -/
theorem ro4 {T : Nat} {r : jm_M} {W : List Nat} (hT16 : T ≤ 16) (h4 : ∀ i, i < T → ∃ h : Nat, h < 10 ∧ r 4 i = nI h) (hW : ∀ z, z ∈ W → z < 8 * T) (hl : W.length ≤ 128) (e17 : r 17 0 = nI W.length) (e18 : ∀ j, j < W.length → r 18 j = nI (W.getD j 0)) (K : Int32 → Prop) (Post : Int32 → jm_M → Prop) (hK : K (nI (b_mask r W))) : ∀ d i, i + d = W.length → vr_runOld_130 r K Post (d + 1) (nI (b_mask r (W.take i))) (nI i)
  | 0, i, hi => by
    obtain rfl : i = W.length := by omega
    rw [List.take_length]
    unfold vr_runOld_130
    rw [e17]
    exact ⟨fun _ => hK, fun w => absurd (nI_le (Nat.le_refl _) (by omega)) w⟩
  | d + 1, i, hi => by
    have hi2 : i < W.length := by omega
    obtain ⟨z, hz⟩ : ∃ z, z = W.getD i 0 := ⟨_, rfl⟩
    have hzW : z ∈ W := by rw [hz]; exact gd_mem hi2
    have hz8 := hW z hzW
    have t1 : (nI i).toNatClampNeg = i := tn_nI (by omega)
    have f18 : r 18 i = nI z := by rw [hz]; exact e18 i hi2
    have ed : nI z / 8 = nI (z / 8) := pk_div (d := 8) (by omega) (by omega) (by omega)
    have td : (nI (z / 8)).toNatClampNeg = z / 8 := tn_nI (by omega)
    obtain ⟨h, hh, eh⟩ := h4 (z / 8) (by omega)
    have hts : W.take (i + 1) = W.take i ++ [z] := by rw [hz]; exact take_s hi2
    have main := ro4 hT16 h4 hW hl e17 e18 K Post hK d (i + 1) (by omega)
    rw [hts, b_mask_add] at main
    unfold vr_runOld_130
    rw [e17, t1, f18, ed]
    refine ⟨fun w => absurd w (nI_ge hi2 (by omega)), fun _ => ⟨vp_in_nI (by omega) (by omega), vp_in_nI (by omega) (by omega), nm_e ?_⟩⟩
    rw [td, shl_home hh eh, nI_or, nI_1]
    exact main
