/-! rings: the search, both at once -/
def rg_L (ld : Nat → Nat → Prop) (c1 r1 : jm_M) : Prop := (∀ a, a < 6 → ∃ y, y < 2 ^ 6 ∧ c1 54 a = nI y ∧ ∀ b, b < 6 → (y.testBit b = true ↔ ld a b)) ∧ ∀ a b, a < 6 → b < 6 → (r1 38 (6 * a + b) ≠ 0 ↔ a ≠ b ∧ ld a b)
theorem nx_loop {r1 : jm_M} {v : Nat → Int32} {p : Nat → Nat} {n r : Nat} (hn : n ≤ 5) (hv : ∀ j, j < n → p j < 6 ∧ v j = nI (p j)) (hvn : v n = nI r) (hr : r < 6) (K : Prop) (P : Int32 → Prop) (hK : (∀ j, j < n → p j ≠ r) → K) (h0 : ¬ (∀ j, j < n → p j ≠ r) → P 0) : ∀ d i, i + d = n → (∀ j, j < i → p j ≠ r) → vr_isNext_2 (nI n) (jm_u r1 39 v) K P (d + 1) (nI i)
  | 0, i, hi, hq => by
    obtain rfl : i = n := by omega
    unfold vr_isNext_2
    exact ⟨fun _ => hK hq, fun q => absurd (nI_le (Nat.le_refl _) (by omega)) q⟩
  | d + 1, i, hi, hq => by
    obtain ⟨h6, ei⟩ := hv i (by omega)
    have eo : nI (p i) = nI r ↔ p i = r := nI_eq (by omega) (by omega)
    have f1 : (jm_u r1 39 v) 39 i = nI (p i) := by rw [jm_uk]; exact ei
    have f2 : (jm_u r1 39 v) 39 n = nI r := by rw [jm_uk]; exact hvn
    unfold vr_isNext_2
    rw [tn_nI (by omega), tn_nI (by omega), f1, f2, eo, nI_1]
    refine ⟨fun q => absurd q (nI_ge (by omega) (by omega)), fun _ => ⟨vp_in_nI (by omega) (by omega), vp_in_nI (by omega) (by omega), fun q => ?_, fun q => h0 (fun w => w i (by omega) q)⟩⟩
    refine nx_loop hn hv hvn hr K P hK h0 d (i + 1) (by omega) (fun j hj => ?_)
    by_cases e : j = i
    · rw [e]; exact q
    · exact hq j (by omega)
theorem nx_of {ld : Nat → Nat → Prop} {c1 r1 : jm_M} (hL : rg_L ld c1 r1) {v : Nat → Int32} {p : Nat → Nat} {n r : Nat} (hn : n ≤ 5) (hv : ∀ j, j < n → p j < 6 ∧ v j = nI (p j)) (hvn : v n = nI r) (hr : r < 6) (P : Int32 → Prop) (h1 : (∀ j, j < n → p j ≠ r) ∧ (n = 0 ∨ ld (p (n - 1)) r) → P 1) (h0 : ¬ ((∀ j, j < n → p j ≠ r) ∧ (n = 0 ∨ ld (p (n - 1)) r)) → P 0) : vr_isNext (nI n) (jm_u r1 39 v) P := by
  refine ⟨n + 1, nx_loop hn hv hvn hr _ P (fun hq => ?_) (fun hq => h0 (fun w => hq w.1)) n 0 (by omega) (fun j hj => absurd hj (Nat.not_lt_zero j))⟩
  cases n with
  | zero => exact ⟨fun _ => h1 ⟨hq, Or.inl rfl⟩, fun q => absurd rfl q⟩
  | succ m =>
    obtain ⟨h6, em⟩ := hv m (by omega)
    have ix : (6 : Int32) * nI (p m) + nI r = nI (6 * p m + r) := ij (k := 6) (by omega)
    have f1 : (jm_u r1 39 v) 39 m = nI (p m) := by rw [jm_uk]; exact em
    have f2 : (jm_u r1 39 v) 39 (m + 1) = nI r := by rw [jm_uk]; exact hvn
    have f3 : (jm_u r1 39 v) 38 = r1 38 := jm_un _ _ (by decide)
    have hl := hL.2 (p m) r h6 hr
    rw [nI_pred, tn_nI (by omega), tn_nI (by omega), f1, f2, ix, tn_nI (by omega), f3]
    refine ⟨fun q => absurd q (nI_ne0 (by omega) (by omega)), fun _ => ⟨vp_in_nI (by omega) (by omega), vp_in_nI (by omega) (by omega), vp_in_nI (by omega) (by omega), fun q => h0 (fun w => ?_), fun q => h1 ⟨hq, Or.inr (hl.mp q).2⟩⟩⟩
    rcases w.2 with w2 | w2
    · omega
    · exact hl.mpr ⟨hq m (by omega), w2⟩ q
def rg_AF (len : Nat) (Post : Int32 → jm_M → Prop) (f m : Nat) (g3 : jm_M) : Prop := ((¬ nI m = (nI len - 1)) → ((vp_in (nI m + 1) 7) ∧ (∀ g8 : jm_M, g8 = jm_a g3 39 (nI m + 1) (-1) → (vr_findRing_9 (nI len) Post f (nI m + 1) g8)))) ∧ ((nI m = (nI len - 1)) → ((vp_in (nI m) 7) ∧ ((vp_in (((6 : Int32) * (g3 39 (nI m).toNatClampNeg)) + (g3 39 (0 : Int32).toNatClampNeg)) 36) ∧ ((((g3 38 (((6 : Int32) * (g3 39 (nI m).toNatClampNeg)) + (g3 39 (0 : Int32).toNatClampNeg)).toNatClampNeg) = 0) → (vr_findRing_9 (nI len) Post f (nI m) g3)) ∧ ((¬ (g3 38 (((6 : Int32) * (g3 39 (nI m).toNatClampNeg)) + (g3 39 (0 : Int32).toNatClampNeg)).toNatClampNeg) = 0) → (Post 1 g3))))))
/-- one step of the reference's search at depth m, with r to be tried -/
theorem fr_step {ld : Nat → Nat → Prop} {c1 r1 : jm_M} (hL : rg_L ld c1 r1) {len : Nat} {v : Nat → Int32} {p : Nat → Nat} {m r f : Nat} (hm : m ≤ 5) (hv : ∀ j, j < m → p j < 6 ∧ v j = nI (p j)) (hvm : v m + 1 = nI r) (hr : r < 6) (Post : Int32 → jm_M → Prop) (h1 : (∀ j, j < m → p j ≠ r) ∧ (m = 0 ∨ ld (p (m - 1)) r) → rg_AF len Post f m (jm_u r1 39 (upd v m (nI r)))) (h0 : ¬ ((∀ j, j < m → p j ≠ r) ∧ (m = 0 ∨ ld (p (m - 1)) r)) → vr_findRing_9 (nI len) Post f (nI m) (jm_u r1 39 (upd v m (nI r)))) : vr_findRing_9 (nI len) Post (f + 1) (nI m) (jm_u r1 39 v) := by
  have e6 : nI r = 6 ↔ r = 6 := nI_eq (b := 6) (by omega) (by omega)
  have g3 : jm_a (jm_u r1 39 v) 39 (nI m) ((jm_u r1 39 v) 39 (nI m).toNatClampNeg + 1) = jm_u r1 39 (upd v m (nI r)) := by
    rw [tn_nI (by omega), jm_as _ _ _ (by omega), jm_uk, jm_uu, hvm]
  have k3 : (jm_u r1 39 (upd v m (nI r))) 39 (nI m).toNatClampNeg = nI r := by rw [tn_nI (by omega), jm_uk, pk_us]
  unfold vr_findRing_9
  rw [g3]
  refine ⟨fun q => absurd q (nI_pos (by omega)), fun _ => ⟨vp_in_nI (by omega) (by omega), vp_in_nI (by omega) (by omega), nm_e ⟨vp_in_nI (by omega) (by omega), fun _ => ?_, fun q => ?_⟩⟩⟩
  · refine nx_of hL (r := r) (p := p) hm (fun j hj => ⟨(hv j hj).1, by rw [pk_un (by omega)]; exact (hv j hj).2⟩) pk_us hr _ (fun w => ⟨fun _ => h1 w, fun q => absurd q (by decide)⟩) (fun w => ⟨fun q => absurd rfl q, fun _ => h0 w⟩)
  · rw [k3, e6] at q; omega
theorem fr_end {r1 : jm_M} {len : Nat} {v : Nat → Int32} {m f : Nat} (hm : m ≤ 5) (hvm : v m + 1 = nI 6) (Post : Int32 → jm_M → Prop) (h : vr_findRing_9 (nI len) Post f (nI m + (-1)) (jm_u r1 39 (upd v m (nI 6)))) : vr_findRing_9 (nI len) Post (f + 1) (nI m) (jm_u r1 39 v) := by
  have g3 : jm_a (jm_u r1 39 v) 39 (nI m) ((jm_u r1 39 v) 39 (nI m).toNatClampNeg + 1) = jm_u r1 39 (upd v m (nI 6)) := by
    rw [tn_nI (by omega), jm_as _ _ _ (by omega), jm_uk, jm_uu, hvm]
  have k3 : (jm_u r1 39 (upd v m (nI 6))) 39 (nI m).toNatClampNeg = nI 6 := by rw [tn_nI (by omega), jm_uk, pk_us]
  unfold vr_findRing_9
  rw [g3]
  refine ⟨fun q => absurd q (nI_pos (by omega)), fun _ => ⟨vp_in_nI (by omega) (by omega), vp_in_nI (by omega) (by omega), nm_e ⟨vp_in_nI (by omega) (by omega), fun q => absurd (by rw [k3]; rfl) q, fun _ => h⟩⟩⟩
def rg_st (p : Nat → Nat) (n r : Nat) : Nat → Nat := fun j => if j = n then r else p j
theorem st_s (p : Nat → Nat) (n r : Nat) : rg_st p n r n = r := if_pos rfl
theorem st_n (p : Nat → Nat) {n r j : Nat} (h : j ≠ n) : rg_st p n r j = p j := if_neg h
/-- what a search below depth n gives -/
def rg_R (len n : Nat) (p : Nat → Nat) (x : Int32) (u v : Nat → Int32) : Prop := (x = 0 ∨ x = 1) ∧ (x = 0 → ∀ j, j ≤ n → u j = nI (p j) ∧ v j = nI (p j)) ∧ (x = 1 → ∀ j, j < len → ∃ z, z < 6 ∧ u j = nI z ∧ v j = nI z)
def rg_S (ld : Nat → Nat → Prop) (gd : cm_D) (gj : cm_J) (c1 r1 : jm_M) (len k : Nat) : Prop := ∀ (n : Nat) (u v : Nat → Int32) (p : Nat → Nat) (y : Nat), n + 1 + k = len → (∀ j, j ≤ n → p j < 6 ∧ u j = nI (p j) ∧ v j = nI (p j)) → (∀ i j, i < j → j ≤ n → p i ≠ p j) → y < 2 ^ 6 → (∀ b, b < 6 → (y.testBit b = true ↔ ∃ j, j ≤ n ∧ p j = b)) → ∃ (x : Int32) (u' v' : Nat → Int32) (N : Nat), rg_R len n p x u' v' ∧ (∀ d Post, k + 1 ≤ d → Post x ((gd, gj, jm_u c1 53 u') : cm_M) → vc_X8_closes d (nI (n + 1)) (nI len) (nI y) (gd, gj, jm_u c1 53 u) Post) ∧ (∀ f Post, (x = 1 → Post 1 (jm_u r1 39 v')) → (x = 0 → vr_findRing_9 (nI len) Post f (nI n) (jm_u r1 39 v')) → rg_AF len Post (f + N) n (jm_u r1 39 v))
theorem rg_S0 {ld : Nat → Nat → Prop} {gd : cm_D} {gj : cm_J} {c1 r1 : jm_M} (hL : rg_L ld c1 r1) {len : Nat} (h2 : 2 ≤ len) (h6 : len ≤ 6) : rg_S ld gd gj c1 r1 len 0 := by
  intro n u v p y hn hp hd hy hyb
  obtain ⟨pn6, un, vn⟩ := hp n (Nat.le_refl n)
  obtain ⟨p06, u0, v0⟩ := hp 0 (Nat.zero_le n)
  have hne : p n ≠ p 0 := fun e => hd 0 n (by omega) (Nat.le_refl n) e.symm
  obtain ⟨yy, y1, y2, y3⟩ := hL.1 (p n) pn6
  have hl := hL.2 (p n) (p 0) pn6 p06
  have elen : nI n = nI len - 1 := by rw [← hn, Nat.add_zero, nI_pred]
  have fu : ((gd, gj, jm_u c1 53 u) : cm_M).2.2 53 n = nI (p n) := by show (jm_u c1 53 u) 53 n = _; rw [jm_uk]; exact un
  have fu0 : ((gd, gj, jm_u c1 53 u) : cm_M).2.2 53 (0 : Int32).toNatClampNeg = nI (p 0) := by show (jm_u c1 53 u) 53 0 = _; rw [jm_uk]; exact u0
  have f54 : ((gd, gj, jm_u c1 53 u) : cm_M).2.2 54 (p n) = nI yy := y2
  have fv : (jm_u r1 39 v) 39 n = nI (p n) := by rw [jm_uk]; exact vn
  have fv0 : (jm_u r1 39 v) 39 (0 : Int32).toNatClampNeg = nI (p 0) := by show (jm_u r1 39 v) 39 0 = _; rw [jm_uk]; exact v0
  have f38 : (jm_u r1 39 v) 38 = r1 38 := jm_un _ _ (by decide)
  have ix : (6 : Int32) * nI (p n) + nI (p 0) = nI (6 * p n + p 0) := ij (k := 6) (by omega)
  have eb := nI_bit (n := yy) (i := p 0) (by omega) (by omega)
  have cls : ∀ (x : Int32), (ld (p n) (p 0) → x = 1) → (¬ ld (p n) (p 0) → x = 0) → ∀ d Post, 0 + 1 ≤ d → Post x ((gd, gj, jm_u c1 53 u) : cm_M) → vc_X8_closes d (nI (n + 1)) (nI len) (nI y) (gd, gj, jm_u c1 53 u) Post := by
    intro x hx1 hx0 d Post hd0 hP
    obtain ⟨d', rfl⟩ : ∃ d', d = d' + 1 := ⟨d - 1, by omega⟩
    show vc_X8_closes_B (vc_X8_closes d') (nI (n + 1)) (nI len) (nI y) (gd, gj, jm_u c1 53 u) Post
    unfold vc_X8_closes_B
    rw [nI_pred, tn_nI (by omega), fu, tn_nI (by omega), f54, fu0]
    refine ⟨vp_in_nI (by omega) (by omega), vp_in_nI (by omega) (by omega), nm_e ⟨fun q => absurd q (nI_nlt (by omega) (by omega)), fun _ => ⟨fun q => ?_, fun q => ?_⟩⟩⟩
    · have q := eb.mp q
      have : ¬ ld (p n) (p 0) := fun w => by rw [(y3 (p 0) p06).mpr w] at q; exact absurd q (by decide)
      rw [hx0 this] at hP; exact hP
    · have : ld (p n) (p 0) := (y3 (p 0) p06).mp (by cases h : yy.testBit (p 0) with | true => rfl | false => exact absurd (eb.mpr h) q)
      rw [hx1 this] at hP; exact hP
  have ref : ∀ f Post, (ld (p n) (p 0) → Post 1 (jm_u r1 39 v)) → (¬ ld (p n) (p 0) → vr_findRing_9 (nI len) Post f (nI n) (jm_u r1 39 v)) → rg_AF len Post (f + 0) n (jm_u r1 39 v) := by
    intro f Post h1 h0
    unfold rg_AF
    rw [tn_nI (by omega), fv, fv0, ix, tn_nI (by omega), f38]
    refine ⟨fun q => absurd elen q, fun _ => ⟨vp_in_nI (by omega) (by omega), vp_in_nI (by omega) (by omega), fun q => h0 (fun w => hl.mpr ⟨hne, w⟩ q), fun q => h1 (hl.mp q).2⟩⟩
  rcases Classical.em (ld (p n) (p 0)) with w | w
  · exact ⟨1, u, v, 0, ⟨Or.inr rfl, fun e => absurd e (by decide), fun _ j hj => ⟨p j, (hp j (by omega)).1, (hp j (by omega)).2.1, (hp j (by omega)).2.2⟩⟩, cls 1 (fun _ => rfl) (fun w2 => absurd w w2), fun f Post h1 h0 => ref f Post (fun _ => h1 rfl) (fun w2 => absurd w w2)⟩
  · exact ⟨0, u, v, 0, ⟨Or.inl rfl, fun _ j hj => ⟨(hp j hj).2.1, (hp j hj).2.2⟩, fun e => absurd e (by decide)⟩, cls 0 (fun w2 => absurd w2 w) (fun _ => rfl), fun f Post h1 h0 => ref f Post (fun w2 => absurd w2 w) (fun _ => h0 rfl)⟩
theorem rg_T {ld : Nat → Nat → Prop} {gd : cm_D} {gj : cm_J} {c1 r1 : jm_M} (hL : rg_L ld c1 r1) {len k : Nat} (h6 : len ≤ 6) (hS : rg_S ld gd gj c1 r1 len k) {n : Nat} {p : Nat → Nat} {y from_ : Nat} (hn : n + 1 + (k + 1) = len) (hd : ∀ i j, i < j → j ≤ n → p i ≠ p j) (hy : y < 2 ^ 6) (hyb : ∀ b, b < 6 → (y.testBit b = true ↔ ∃ j, j ≤ n ∧ p j = b)) (hf : from_ < 2 ^ 6) (hfb : ∀ b, b < 6 → (from_.testBit b = true ↔ ld (p n) b)) : ∀ (d r : Nat) (u v : Nat → Int32), r + d = 6 → (∀ j, j ≤ n → p j < 6 ∧ u j = nI (p j) ∧ v j = nI (p j)) → v (n + 1) + 1 = nI r → ∃ (x : Int32) (u' v' : Nat → Int32) (N : Nat), rg_R len n p x u' v' ∧ (∀ D Post, k + 1 ≤ D → Post x ((gd, gj, jm_u c1 53 u') : cm_M) → vc_X8_closes_43 (vc_X8_closes D) (nI (n + 1)) (nI len) (nI y) (nI from_) Post (d + 1) (nI r) (gd, gj, jm_u c1 53 u)) ∧ (∀ f Post, (x = 1 → Post 1 (jm_u r1 39 v')) → (x = 0 → vr_findRing_9 (nI len) Post f (nI n) (jm_u r1 39 v')) → vr_findRing_9 (nI len) Post (f + N) (nI (n + 1)) (jm_u r1 39 v))
  | 0, r, u, v, hr, hp, hv => by
    obtain rfl : r = 6 := by omega
    refine ⟨0, u, upd v (n + 1) (nI 6), 1, ⟨Or.inl rfl, fun _ j hj => ⟨(hp j hj).2.1, by rw [pk_un (by omega)]; exact (hp j hj).2.2⟩, fun e => absurd e (by decide)⟩, fun D Post hD hP => ?_, fun f Post h1 h0 => ?_⟩
    · unfold vc_X8_closes_43
      exact ⟨fun _ => hP, fun q => absurd (by decide) q⟩
    · refine fr_end (by omega) hv Post ?_
      rw [pk_m1]; exact h0 rfl
  | d + 1, r, u, v, hr, hp, hv => by
    have hr6 : r < 6 := by omega
    have hv1 : ∀ j, j < n + 1 → p j < 6 ∧ v j = nI (p j) := fun j hj => ⟨(hp j (by omega)).1, (hp j (by omega)).2.2⟩
    have bit : (((nI from_ &&& (nI y ^^^ (-1))) >>> (nI r &&& 31)) &&& 1) = 0 ↔ ¬ ((∀ j, j < n + 1 → p j ≠ r) ∧ ld (p n) r) := by
      have hlt : from_ &&& (2 ^ 32 - 1 - y) < 2 ^ 31 := Nat.lt_of_le_of_lt Nat.and_le_left (by omega)
      rw [nI_not (by omega), nI_bit hlt (by omega), Nat.testBit_and]
      have tb : (2 ^ 32 - 1 - y).testBit r = (decide (r < 32) && !y.testBit r) := by
        rw [show 2 ^ 32 - 1 - y = 2 ^ 32 - (y + 1) from by omega]
        exact Nat.testBit_two_pow_sub_succ (by omega) r
      rw [tb, decide_eq_true (show r < 32 by omega), Bool.true_and]
      have f1 := hfb r hr6
      have f2 := hyb r hr6
      cases e1 : from_.testBit r with
      | false =>
        rw [e1] at f1
        exact ⟨fun _ w => absurd (f1.mpr w.2) (by decide), fun _ => rfl⟩
      | true =>
        rw [e1] at f1
        have l1 := f1.mp rfl
        cases e2 : y.testBit r with
        | true =>
          rw [e2] at f2
          obtain ⟨j, j1, j2⟩ := f2.mp rfl
          exact ⟨fun _ w => w.1 j (by omega) j2, fun _ => rfl⟩
        | false =>
          rw [e2] at f2
          exact ⟨fun w => absurd w (by decide), fun w => absurd ⟨fun j hj e => absurd (f2.mpr ⟨j, by omega, e⟩) (by decide), l1⟩ w⟩
    rcases Classical.em ((∀ j, j < n + 1 → p j ≠ r) ∧ ld (p n) r) with ok | ok
    · have hp5 : ∀ j, j ≤ n + 1 → rg_st p (n + 1) r j < 6 ∧ upd u (n + 1) (nI r) j = nI (rg_st p (n + 1) r j) ∧ upd v (n + 1) (nI r) j = nI (rg_st p (n + 1) r j) := by
        intro j hj
        by_cases e : j = n + 1
        · rw [e, st_s, pk_us, pk_us]; exact ⟨hr6, rfl, rfl⟩
        · rw [st_n _ e, pk_un e, pk_un e]; exact hp j (by omega)
      have hd5 : ∀ i j, i < j → j ≤ n + 1 → rg_st p (n + 1) r i ≠ rg_st p (n + 1) r j := by
        intro i j hij hj
        by_cases e : j = n + 1
        · rw [e, st_s, st_n _ (by omega)]; exact ok.1 i (by omega)
        · rw [st_n _ e, st_n _ (by omega)]; exact hd i j hij (by omega)
      have hyb5 : ∀ b, b < 6 → ((y ||| 2 ^ r).testBit b = true ↔ ∃ j, j ≤ n + 1 ∧ rg_st p (n + 1) r j = b) := by
        intro b hb
        rw [tb_or1, Bool.or_eq_true, decide_eq_true_eq, hyb b hb]
        refine ⟨fun w => ?_, fun ⟨j, j1, j2⟩ => ?_⟩
        · rcases w with ⟨j, j1, j2⟩ | w
          · exact ⟨j, by omega, by rw [st_n _ (by omega)]; exact j2⟩
          · exact ⟨n + 1, by omega, by rw [st_s]; exact w⟩
        · by_cases e : j = n + 1
          · rw [e, st_s] at j2; exact Or.inr j2
          · rw [st_n _ e] at j2; exact Or.inl ⟨j, by omega, j2⟩
      obtain ⟨x1, u1, v1, N1, ⟨a1, a2, a3⟩, c1', r1'⟩ := hS (n + 1) (upd u (n + 1) (nI r)) (upd v (n + 1) (nI r)) (rg_st p (n + 1) r) (y ||| 2 ^ r) (by omega) hp5 hd5 (or_lt hy (Nat.pow_lt_pow_right (by omega) hr6)) hyb5
      have g5 : cm_a (gd, gj, jm_u c1 53 u) 53 (nI (n + 1)) (nI r) = (gd, gj, jm_u c1 53 (upd u (n + 1) (nI r))) := by
        show (gd, gj, jm_a (jm_u c1 53 u) 53 (nI (n + 1)) (nI r)) = _
        rw [jm_as _ _ _ (by omega), jm_uk, jm_uu]
      rcases a1 with rfl | rfl
      · have hp1 : ∀ j, j ≤ n → p j < 6 ∧ u1 j = nI (p j) ∧ v1 j = nI (p j) := fun j hj => by
          obtain ⟨b1, b2⟩ := a2 rfl j (by omega)
          rw [st_n _ (by omega)] at b1 b2
          exact ⟨(hp j hj).1, b1, b2⟩
        have hvn : v1 (n + 1) + 1 = nI (r + 1) := by
          rw [(a2 rfl (n + 1) (Nat.le_refl _)).2, st_s, nI_1]
        obtain ⟨x, u', v', N, hR, hc, hr'⟩ := rg_T hL h6 hS hn hd hy hyb hf hfb d (r + 1) u1 v1 (by omega) hp1 hvn
        refine ⟨x, u', v', N + N1 + 1, hR, fun D Post hD hP => ?_, fun f Post h1 h0 => ?_⟩
        · unfold vc_X8_closes_43
          rw [bit, g5, nI_shl1 (by omega), nI_or, nI_1, nI_1]
          refine ⟨fun q => absurd q (nI_ge (b := 6) (by omega) (by omega)), fun _ => ⟨fun q => absurd ok q, fun _ => ⟨vp_in_nI (by omega) (by omega), nm_e ?_⟩⟩⟩
          exact c1' D _ hD ⟨fun _ => hc D Post hD hP, fun q => absurd rfl q⟩
        · rw [show f + (N + N1 + 1) = f + N + N1 + 1 by omega]
          refine fr_step hL (p := p) (r := r) (by omega) hv1 hv hr6 Post (fun _ => ?_) (fun w => absurd ⟨ok.1, Or.inr ok.2⟩ w)
          exact r1' (f + N) Post (fun e => absurd e (by decide)) (fun _ => hr' f Post h1 h0)
      · refine ⟨1, u1, v1, N1 + 1, ⟨Or.inr rfl, fun e => absurd e (by decide), a3⟩, fun D Post hD hP => ?_, fun f Post h1 h0 => ?_⟩
        · unfold vc_X8_closes_43
          rw [bit, g5, nI_shl1 (by omega), nI_or, nI_1, nI_1]
          refine ⟨fun q => absurd q (nI_ge (b := 6) (by omega) (by omega)), fun _ => ⟨fun q => absurd ok q, fun _ => ⟨vp_in_nI (by omega) (by omega), nm_e ?_⟩⟩⟩
          exact c1' D _ hD ⟨fun q => absurd q (by decide), fun _ => hP⟩
        · rw [show f + (N1 + 1) = f + N1 + 1 by omega]
          refine fr_step hL (p := p) (r := r) (by omega) hv1 hv hr6 Post (fun _ => ?_) (fun w => absurd ⟨ok.1, Or.inr ok.2⟩ w)
          exact r1' f Post h1 (fun e => absurd e (by decide))
    · obtain ⟨x, u', v', N, hR, hc, hr'⟩ := rg_T hL h6 hS hn hd hy hyb hf hfb d (r + 1) u (upd v (n + 1) (nI r)) (by omega) (fun j hj => by rw [pk_un (by omega)]; exact hp j hj) (by rw [pk_us, nI_1])
      refine ⟨x, u', v', N + 1, hR, fun D Post hD hP => ?_, fun f Post h1 h0 => ?_⟩
      · unfold vc_X8_closes_43
        rw [bit, nI_1]
        exact ⟨fun q => absurd q (nI_ge (b := 6) (by omega) (by omega)), fun _ => ⟨fun _ => hc D Post hD hP, fun q => absurd ok q⟩⟩
      · rw [show f + (N + 1) = f + N + 1 by omega]
        refine fr_step hL (p := p) (r := r) (by omega) hv1 hv hr6 Post (fun w => absurd ⟨w.1, ?_⟩ ok) (fun _ => hr' f Post h1 h0)
        rcases w.2 with w2 | w2
        · omega
        · exact w2
theorem rg_all {ld : Nat → Nat → Prop} {gd : cm_D} {gj : cm_J} {c1 r1 : jm_M} (hL : rg_L ld c1 r1) {len : Nat} (h2 : 2 ≤ len) (h6 : len ≤ 6) : ∀ k, rg_S ld gd gj c1 r1 len k
  | 0 => rg_S0 hL h2 h6
  | k + 1 => by
    have ih := rg_all (gd := gd) (gj := gj) hL h2 h6 k
    intro n u v p y hn hp hd hy hyb
    obtain ⟨pn6, un, vn⟩ := hp n (Nat.le_refl n)
    obtain ⟨yy, y1, y2, y3⟩ := hL.1 (p n) pn6
    have fu : ((gd, gj, jm_u c1 53 u) : cm_M).2.2 53 n = nI (p n) := by show (jm_u c1 53 u) 53 n = _; rw [jm_uk]; exact un
    have f54 : ((gd, gj, jm_u c1 53 u) : cm_M).2.2 54 (p n) = nI yy := y2
    obtain ⟨x, u', v', N, hR, hc, hr⟩ := rg_T (gd := gd) (gj := gj) hL h6 ih hn hd hy hyb y1 y3 6 0 u (upd v (n + 1) (-1)) (by omega) (fun j hj => by rw [pk_un (by omega)]; exact hp j hj) (by rw [pk_us]; decide)
    refine ⟨x, u', v', N, hR, fun d Post hd0 hP => ?_, fun f Post h1 h0 => ?_⟩
    · obtain ⟨d', rfl⟩ : ∃ d', d = d' + 1 := ⟨d - 1, by omega⟩
      show vc_X8_closes_B (vc_X8_closes d') (nI (n + 1)) (nI len) (nI y) (gd, gj, jm_u c1 53 u) Post
      unfold vc_X8_closes_B
      rw [nI_pred, tn_nI (by omega), fu, tn_nI (by omega), f54]
      exact ⟨vp_in_nI (by omega) (by omega), vp_in_nI (by omega) (by omega), nm_e ⟨fun _ => ⟨7, hc d' Post (by omega) hP⟩, fun q => absurd (nI_lt (by omega) (by omega)) q⟩⟩
    · unfold rg_AF
      have e1 : nI len - 1 = nI (len - 1) := by
        obtain ⟨l', rfl⟩ : ∃ l', len = l' + 1 := ⟨len - 1, by omega⟩
        rw [nI_pred]; rfl
      rw [e1, nI_eq (by omega) (by omega), nI_1]
      refine ⟨fun _ => ⟨vp_in_nI (by omega) (by omega), nm_e ?_⟩, fun q => by omega⟩
      rw [jm_as _ _ _ (by omega), jm_uk, jm_uu]
      exact hr f Post h1 h0
