/-! ===== one act: class and reference in step ===== -/
/-- a memory whose rows lo to hi are another's -/
def jm_o (g0 g : jm_M) (lo hi : Nat) : jm_M := fun k => bif Nat.ble lo k && Nat.ble k hi then g k else g0 k
theorem jm_o_in (g0 g : jm_M) {lo hi k : Nat} (h1 : lo ≤ k) (h2 : k ≤ hi) : jm_o g0 g lo hi k = g k := by
  unfold jm_o
  rw [Nat.ble_eq_true_of_le h1, Nat.ble_eq_true_of_le h2]; rfl
theorem jm_o_out (g0 g : jm_M) {lo hi k : Nat} (h : k < lo ∨ hi < k) : jm_o g0 g lo hi k = g0 k := by
  unfold jm_o
  cases e : (Nat.ble lo k && Nat.ble k hi) with
  | false => rfl
  | true =>
    rw [Bool.and_eq_true] at e
    have e1 := Nat.le_of_ble_eq_true e.1
    have e2 := Nat.le_of_ble_eq_true e.2
    omega
theorem jm_o_u (g0 g : jm_M) {lo hi k : Nat} (f : Nat → Int32) (h1 : lo ≤ k) (h2 : k ≤ hi) : jm_u (jm_o g0 g lo hi) k f = jm_o g0 (jm_u g k f) lo hi := by
  funext x
  by_cases q : x = k
  · subst q
    rw [jm_o_in _ _ h1 h2]
    show (bif Nat.beq x x then f else _) = (bif Nat.beq x x then f else _)
    rw [Nat.beq_refl]; rfl
  · rw [jm_un _ _ q]
    by_cases w : x < lo ∨ hi < x
    · rw [jm_o_out _ _ w, jm_o_out _ _ w]
    · rw [jm_o_in _ _ (by omega) (by omega), jm_o_in _ _ (by omega) (by omega), jm_un _ _ q]
theorem jo_a (g0 g : jm_M) {lo hi k : Nat} (i x : Int32) (h1 : lo ≤ k) (h2 : k ≤ hi) : jm_a (jm_o g0 g lo hi) k i x = jm_o g0 (jm_a g k i x) lo hi := by
  unfold jm_a
  rw [jm_o_u _ _ _ h1 h2, jm_o_in _ _ h1 h2]
theorem jo_s (g0 g : jm_M) {lo hi k : Nat} (x : Int32) (h1 : lo ≤ k) (h2 : k ≤ hi) : jm_s (jm_o g0 g lo hi) k x = jm_o g0 (jm_s g k x) lo hi := by
  unfold jm_s
  rw [jm_o_u _ _ _ h1 h2, jm_o_in _ _ h1 h2]
/-- the class's memory within an act -/
def b_c (gd : cm_D) (gj : cm_J) (c0 c : jm_M) : cm_M := (gd, gj, jm_o c0 c 15 24)
theorem bc_a (gd : cm_D) (gj : cm_J) (c0 c : jm_M) {k : Nat} (i x : Int32) (h1 : 15 ≤ k) (h2 : k ≤ 24) : cm_a (b_c gd gj c0 c) k i x = b_c gd gj c0 (jm_a c k i x) := by
  unfold cm_a b_c; rw [jo_a _ _ _ _ h1 h2]
theorem bc_s (gd : cm_D) (gj : cm_J) (c0 c : jm_M) {k : Nat} (x : Int32) (h1 : 15 ≤ k) (h2 : k ≤ 24) : cm_s (b_c gd gj c0 c) k x = b_c gd gj c0 (jm_s c k x) := by
  unfold cm_s b_c; rw [jo_s _ _ _ h1 h2]
theorem jm_as (g : jm_M) (k : Nat) {n : Nat} (x : Int32) (h : n < 2 ^ 31) : jm_a g k (nI n) x = jm_u g k (upd (g k) n x) := by
  unfold jm_a; rw [tn_nI h]
theorem jm_uk (g : jm_M) (k : Nat) (f : Nat → Int32) : jm_u g k f k = f := by
  show (bif Nat.beq k k then f else g k) = f
  rw [Nat.beq_refl]; rfl
def b_m1 (h : Nat → Int32) (W : List Nat) (c r : jm_M) : Prop := ∀ i, i < 128 → c 15 i = r 13 i ∧ (i ∉ W → r 13 i = h i)
def b_m2 (T : Nat) (W : List Nat) (c r : jm_M) : Prop := W.Nodup ∧ (∀ z, z ∈ W → z < 8 * T) ∧ c 21 0 = nI W.length ∧ r 17 0 = nI W.length ∧ (∀ j, j < W.length → c 17 j = nI (W.getD j 0) ∧ r 18 j = nI (W.getD j 0)) ∧ (∀ z, z < 128 → c 16 z = (if z ∈ W then 1 else 0) ∧ r 19 z = (if z ∈ W then 1 else 0))
def b_m3 (k : Nat) (Q : List Nat) (c r : jm_M) : Prop := Q.length ≤ k ∧ c 22 0 = nI Q.length ∧ (∀ j, j < Q.length → c 18 j = nI (Q.getD j 0)) ∧ (∀ p, p ∈ Q → p < 420) ∧ (∀ p, p < 100 → r 14 p = nI (Q.count p)) ∧ (∀ p, p < 160 → r 15 p = nI (Q.count (100 + p))) ∧ (∀ p, p < 160 → r 16 p = nI (Q.count (260 + p)))
def b_m4 (N D : Nat) (c r : jm_M) : Prop := D ≤ 8 ∧ c 23 0 = nI D ∧ ∀ j, j < D → ∃ i n : Nat, i < N ∧ n ≤ 31 ∧ c 19 j = nI i ∧ r 20 j = nI i ∧ c 20 j = nI n ∧ r 21 j = nI n
/-- an act under way: what is written, the ties made, how many routines are open -/
def b_M (T N : Nat) (h : Nat → Int32) (W Q : List Nat) (D k : Nat) (c r : jm_M) : Prop := b_m1 h W c r ∧ b_m2 T W c r ∧ b_m3 k Q c r ∧ b_m4 N D c r ∧ c 24 0 = r 22 0
/-- what the class keeps of an act that failed -/
def b_AK (c : jm_M) : Prop := ∃ K : Nat, K ≤ 128 ∧ c 21 0 = nI K ∧ (∀ i, i < K → ∃ z : Nat, z < 128 ∧ c 17 i = nI z) ∧ (∀ z, z < 128 → (∀ i, i < K → c 17 i ≠ nI z) → c 16 z = 0)
theorem nd_len : ∀ (n : Nat) (W : List Nat), W.Nodup → (∀ z, z ∈ W → z < n) → W.length ≤ n
  | 0, W, _, h => by
    cases W with
    | nil => exact Nat.le_refl 0
    | cons x W => exact absurd (h x List.mem_cons_self) (Nat.not_lt_zero x)
  | n + 1, W, hn, h => by
    by_cases q : n ∈ W
    · have h1 := nd_len n (W.erase n) (hn.erase n) (fun z hz => by
        have h2 := h z (List.mem_of_mem_erase hz)
        have h3 : z ≠ n := fun e => by
          rw [e] at hz
          exact (List.Nodup.mem_erase_iff hn).mp hz |>.1 rfl
        omega)
      rw [List.length_erase_of_mem q] at h1
      omega
    · have := nd_len n W hn (fun z hz => by
        have h2 := h z hz
        have h3 : z ≠ n := fun e => q (e ▸ hz)
        omega)
      omega
theorem m2_AK {T : Nat} {W : List Nat} {c r : jm_M} (hT16 : T ≤ 16) (h : b_m2 T W c r) : b_AK c := by
  obtain ⟨h1, h2, h3, h4, h5, h6⟩ := h
  have hl := nd_len (8 * T) W h1 h2
  refine ⟨W.length, by omega, h3, fun i hi => ⟨W.getD i 0, by have := h2 _ (gd_mem hi); omega, (h5 i hi).1⟩, fun z hz hq => ?_⟩
  rw [(h6 z hz).1, if_neg]
  intro hm
  obtain ⟨j, hj, ej⟩ := mem_gd hm
  exact hq j hj (by rw [(h5 j hj).1, ej])
theorem gd_app {xs : List Nat} {t j : Nat} : (xs ++ [t]).getD j 0 = if j = xs.length then t else xs.getD j 0 := by
  rw [List.getD_eq_getElem?_getD, List.getD_eq_getElem?_getD, List.getElem?_append]
  by_cases q : j < xs.length
  · rw [if_pos q, if_neg (by omega)]
  · rw [if_neg q]
    by_cases w : j = xs.length
    · rw [if_pos w, w, Nat.sub_self]; rfl
    · rw [if_neg w, List.getElem?_eq_none (by simp; omega), List.getElem?_eq_none (by omega)]
theorem cnt_app (Q : List Nat) (t p : Nat) : (Q ++ [t]).count p = Q.count p + (if t = p then 1 else 0) := by
  rw [List.count_append, List.count_singleton]
  by_cases q : t = p <;> simp [q]
theorem m3_up {k : Nat} {Q : List Nat} {c r c' r' : jm_M} (h : b_m3 k Q c r) (e22 : c' 22 = c 22) (e18 : c' 18 = c 18) (e14 : r' 14 = r 14) (e15 : r' 15 = r 15) (e16 : r' 16 = r 16) : b_m3 (k + 1) Q c' r' := by
  obtain ⟨h1, h2, h3, h4, h5, h6, h7⟩ := h
  refine ⟨by omega, by rw [e22]; exact h2, by rw [e18]; exact h3, h4, by rw [e14]; exact h5, by rw [e15]; exact h6, by rw [e16]; exact h7⟩
/-- one more tie; the reference counts it in its row -/
theorem m3_add {k t : Nat} {Q : List Nat} {c r c' r' : jm_M} (h : b_m3 k Q c r) (hk : k < 300) (ht : t < 420) (e22 : c' 22 0 = nI (Q.length + 1)) (e18 : c' 18 = upd (c 18) Q.length (nI t)) (e14 : r' 14 = if t < 100 then upd (r 14) t (r 14 t + 1) else r 14) (e15 : r' 15 = if 100 ≤ t ∧ t < 260 then upd (r 15) (t - 100) (r 15 (t - 100) + 1) else r 15) (e16 : r' 16 = if 260 ≤ t then upd (r 16) (t - 260) (r 16 (t - 260) + 1) else r 16) : b_m3 (k + 1) (Q ++ [t]) c' r' := by
  obtain ⟨h1, h2, h3, h4, h5, h6, h7⟩ := h
  refine ⟨by rw [List.length_append]; simp; omega, by rw [e22, List.length_append]; rfl, fun j hj => ?_, fun p hp => ?_, fun p hp => ?_, fun p hp => ?_, fun p hp => ?_⟩
  · rw [List.length_append] at hj
    rw [e18, gd_app]
    by_cases q : j = Q.length
    · rw [if_pos q, q, pk_us]
    · rw [if_neg q, pk_un q]; exact h3 j (by simp at hj; omega)
  · rcases List.mem_append.mp hp with q | q
    · exact h4 p q
    · rw [List.mem_singleton] at q; omega
  · rw [cnt_app, e14]
    by_cases q : t < 100
    · rw [if_pos q]
      by_cases w : p = t
      · subst w; rw [pk_us, h5 p hp, nI_1, if_pos rfl]
      · rw [pk_un w, if_neg (fun e => w e.symm)]; exact h5 p hp
    · rw [if_neg q, if_neg (by omega)]; exact h5 p hp
  · rw [cnt_app, e15]
    by_cases q : 100 ≤ t ∧ t < 260
    · rw [if_pos q]
      by_cases w : p = t - 100
      · rw [w, pk_us, h6 (t - 100) (by omega), nI_1, if_pos (by omega)]
      · rw [pk_un w, if_neg (by omega)]; exact h6 p hp
    · rw [if_neg q, if_neg (by omega)]; exact h6 p hp
  · rw [cnt_app, e16]
    by_cases q : 260 ≤ t
    · rw [if_pos q]
      by_cases w : p = t - 260
      · rw [w, pk_us, h7 (t - 260) (by omega), nI_1, if_pos (by omega)]
      · rw [pk_un w, if_neg (by omega)]; exact h7 p hp
    · rw [if_neg q, if_neg (by omega)]; exact h7 p hp
/-- what ends is left: class -/
theorem pop_c {N D : Nat} {gd : cm_D} {gj : cm_J} {c0 c r r0 : jm_M} (hN : N ≤ 40) (h : b_m4 N D c r) (e7 : c0 7 = r0 7) (hz : ∀ i, i < N → ∃ z : Nat, z ≤ 16 ∧ r0 7 i = nI z) : ∃ D2, D2 ≤ D ∧ (D2 = 0 ∨ ∃ (D1 i n z : Nat), D2 = D1 + 1 ∧ i < N ∧ r0 7 i = nI z ∧ z ≤ 16 ∧ n < z ∧ c 19 D1 = nI i ∧ r 20 D1 = nI i ∧ c 20 D1 = nI n ∧ r 21 D1 = nI n) ∧ (∀ P : cm_M → Prop, P (b_c gd gj c0 (jm_s c 23 (nI D2))) → vc_X0_leaveEnded (b_c gd gj c0 c) P) ∧ (∃ m, ∀ n kk (Post : Int32 → jm_M → Prop) k, vr_works_123 kk Post n (nI D2) (nI k) (jm_o r0 r 13 22) → vr_works_123 kk Post (n + m) (nI D) (nI k) (jm_o r0 r 13 22)) := by
  induction D generalizing c with
  | zero =>
    refine ⟨0, Nat.le_refl 0, Or.inl rfl, fun P hp => ⟨1, ?_⟩, 0, fun n kk Post k hv => hv⟩
    have e : jm_s c 23 (nI 0) 23 0 = 0 := rfl
    have e2 : b_c gd gj c0 (jm_s c 23 (nI 0)) = b_c gd gj c0 c := by
      have : jm_s c 23 (nI 0) = c := by
        unfold jm_s
        have : upd (c 23) 0 (nI 0) = c 23 := by
          funext x
          by_cases q : x = 0
          · subst q; rw [pk_us]; exact h.2.1.symm
          · rw [pk_un q]
        rw [this, jm_u0]
      rw [this]
    rw [e2] at hp
    unfold vc_X0_leaveEnded_0
    have e3 : (b_c gd gj c0 c).2.2 23 0 = nI 0 := h.2.1
    rw [e3]
    exact ⟨fun _ => hp, fun q => absurd (by decide) q⟩
  | succ D ih =>
    obtain ⟨h1, h2, h3⟩ := id h
    obtain ⟨i, n, hi, hn, c19, r20, c20, r21⟩ := h3 D (by omega)
    obtain ⟨z, hz16, ez⟩ := hz i hi
    have t1 : (nI D).toNatClampNeg = D := tn_nI (by omega)
    have ti : (nI i).toNatClampNeg = i := tn_nI (by omega)
    have iD : vp_in (nI D) 8 := vp_in_nI (by omega) (by omega)
    have ii : vp_in (nI i) 40 := vp_in_nI (by omega) (by omega)
    have e23 : (b_c gd gj c0 c).2.2 23 0 = nI (D + 1) := h2
    have e19 : (b_c gd gj c0 c).2.2 19 D = nI i := c19
    have e20 : (b_c gd gj c0 c).2.2 20 D = nI n := c20
    have e7c : (b_c gd gj c0 c).2.2 7 i = nI z := by show c0 7 i = nI z; rw [e7]; exact ez
    have lt : nI n < nI z ↔ n < z := nI_ltI (by omega) (by omega)
    by_cases q : n < z
    · refine ⟨D + 1, Nat.le_refl _, Or.inr ⟨D, i, n, z, rfl, hi, ez, hz16, q, c19, r20, c20, r21⟩, fun P hp => ⟨1, ?_⟩, 0, fun n kk Post k hv => hv⟩
      have e2 : b_c gd gj c0 (jm_s c 23 (nI (D + 1))) = b_c gd gj c0 c := by
        have : jm_s c 23 (nI (D + 1)) = c := by
          unfold jm_s
          have : upd (c 23) 0 (nI (D + 1)) = c 23 := by
            funext x
            by_cases q : x = 0
            · subst q; rw [pk_us]; exact h2.symm
            · rw [pk_un q]
          rw [this, jm_u0]
        rw [this]
      rw [e2] at hp
      unfold vc_X0_leaveEnded_0
      rw [e23, nI_pred, t1, e19, e20, ti, e7c]
      exact ⟨fun w => absurd w (nI_nle (by omega) (by omega)), fun _ => ⟨iD, iD, ii, fun _ => hp, fun w => absurd (lt.mpr q) w⟩⟩
    · obtain ⟨D2, d1, d2, d3, m, d4⟩ := ih (c := jm_s c 23 (nI D)) ⟨by omega, rfl, fun j hj => h3 j (by omega)⟩
      refine ⟨D2, by omega, d2, fun P hp => ?_, m + 1, fun n2 kk Post k hv => ?_⟩
      · have e5 : jm_s (jm_s c 23 (nI D)) 23 (nI D2) = jm_s c 23 (nI D2) := by
          unfold jm_s
          rw [jm_uu, jm_uk]
          congr 1
          funext x
          by_cases q : x = 0
          · subst q; rw [pk_us, pk_us]
          · rw [pk_un q, pk_un q, pk_un q]
        obtain ⟨n2, hv⟩ := d3 P (by rw [e5]; exact hp)
        refine ⟨n2 + 1, ?_⟩
        unfold vc_X0_leaveEnded_0
        rw [e23, nI_pred, t1, e19, e20, ti, e7c]
        refine ⟨fun w => absurd w (nI_nle (by omega) (by omega)), fun _ => ⟨iD, iD, ii, fun w => absurd (lt.mp w) q, fun _ => nm_e ?_⟩⟩
        rw [bc_s _ _ _ _ _ (by omega) (by omega)]
        exact hv
      · have w := d4 n2 kk Post k hv
        show vr_works_123 kk Post (n2 + m + 1) (nI (D + 1)) (nI k) (jm_o r0 r 13 22)
        unfold vr_works_123
        have f20 : jm_o r0 r 13 22 20 D = nI i := r20
        have f21 : jm_o r0 r 13 22 21 D = nI n := r21
        have f7 : jm_o r0 r 13 22 7 i = nI z := ez
        rw [nI_pred, t1, f20, f21]
        refine ⟨fun w => absurd w (nI_nle (by omega) (by omega)), fun _ => ⟨iD, nm_e ⟨iD, ii, ?_⟩⟩⟩
        rw [ti, f7]
        refine ⟨fun w => absurd (lt.mp w) q, fun _ => ?_⟩
        rw [pk_m1]
        exact w
