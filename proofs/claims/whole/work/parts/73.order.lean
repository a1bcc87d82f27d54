/-! orders: the reference -/
theorem wl_pre (f : Nat → Int32) (l : Nat) : ∀ d, ∃ ys, b_wl f (l + d) = b_wl f l ++ ys
  | 0 => ⟨[], (List.append_nil _).symm⟩
  | d + 1 => by
    obtain ⟨ys, h⟩ := wl_pre f l d
    rw [← Nat.add_assoc, b_wl_succ, h]
    by_cases q : f (l + d) = 1
    · rw [if_pos q]; exact ⟨ys ++ [l + d], by rw [List.append_assoc]⟩
    · rw [if_neg q]; exact ⟨ys, rfl⟩
theorem fw_loop {r : jm_M} {S : Nat} (hS : S ≤ 2000) (e40 : r 40 0 = nI S) (h45 : ∀ l, l < S → r 45 l = 0 ∨ r 45 l = 1) (hz : (b_wl (r 45) S).length ≤ 6) (P : jm_M → Prop) (hP : ∀ J : jm_M, (∀ k, (k < 51 ∨ 52 < k) → J k = r k) → J 51 0 = nI (b_wl (r 45) S).length → (∀ j, j < (b_wl (r 45) S).length → J 52 j = nI ((b_wl (r 45) S).getD j 0)) → P J) : ∀ d l (J : jm_M), l + d = S → (∀ k, (k < 51 ∨ 52 < k) → J k = r k) → J 51 0 = nI (b_wl (r 45) l).length → (∀ j, j < (b_wl (r 45) l).length → J 52 j = nI ((b_wl (r 45) l).getD j 0)) → vr_findWaiting_7 P (d + 1) (nI l) J
  | 0, l, J, hl, hJ, h51, h52 => by
    obtain rfl : l = S := by omega
    unfold vr_findWaiting_7
    rw [hJ 40 (by decide), e40]
    exact ⟨fun _ => hP J hJ h51 h52, fun q => absurd (nI_le (Nat.le_refl _) (by omega)) q⟩
  | d + 1, l, J, hl, hJ, h51, h52 => by
    obtain ⟨ys, hys⟩ := wl_pre (r 45) l (d + 1)
    rw [hl] at hys
    have hlen : (b_wl (r 45) S).length = (b_wl (r 45) l).length + ys.length := by rw [hys, List.length_append]
    obtain ⟨ys2, hys2⟩ := wl_pre (r 45) (l + 1) d
    rw [show l + 1 + d = S by omega] at hys2
    have hlen2 : (b_wl (r 45) S).length = (b_wl (r 45) (l + 1)).length + ys2.length := by rw [hys2, List.length_append]
    unfold vr_findWaiting_7
    rw [hJ 40 (by decide), e40, h51, tn_nI (by omega), hJ 45 (by decide)]
    refine ⟨fun q => absurd q (nI_ge (by omega) (by omega)), fun _ => ⟨fun q => ?_, fun q => ⟨vp_in_nI (by omega) (by omega), fun w => ?_, fun w => ?_⟩⟩⟩
    · have h6 : 6 ≤ (b_wl (r 45) l).length := (nI_leI (a := 6) (by omega) (by omega)).mp q
      have : ys = [] := List.length_eq_zero_iff.mp (by omega)
      rw [this, List.append_nil] at hys
      rw [← hys] at h51 h52
      exact hP J hJ h51 h52
    · have h6 : (b_wl (r 45) l).length < 6 := by
        rcases Nat.lt_or_ge (b_wl (r 45) l).length 6 with u | u
        · exact u
        · exact absurd (nI_le (a := 6) u (by omega)) q
      have one : r 45 l = 1 := by rcases h45 l (by omega) with u | u; exact absurd u w; exact u
      have hw : b_wl (r 45) (l + 1) = b_wl (r 45) l ++ [l] := by rw [b_wl_succ, if_pos one]
      refine ⟨vp_in_nI (by omega) (by omega), nm_e (nm_e ?_)⟩
      rw [jm_as _ _ _ (by omega), jm_un _ _ (show (51 : Nat) ≠ 52 by decide), h51, nI_1, nI_1]
      refine fw_loop hS e40 h45 hz P hP d (l + 1) _ (by omega) (fun k hk => ?_) ?_ (fun j hj => ?_)
      · rw [js_un _ _ (by omega), jm_un _ _ (by omega)]; exact hJ k hk
      · rw [js_k, hw, List.length_append]; rfl
      · rw [hw] at hj ⊢
        rw [List.length_append] at hj
        have hj2 : j < (b_wl (r 45) l).length + 1 := hj
        rw [js_un _ _ (by decide), jm_uk, gd_app]
        by_cases e : j = (b_wl (r 45) l).length
        · rw [if_pos e, e, pk_us]
        · rw [if_neg e, pk_un e]; exact h52 j (by omega)
    · have hw : b_wl (r 45) (l + 1) = b_wl (r 45) l := by rw [b_wl_succ, if_neg (by rw [w]; decide)]
      rw [nI_1]
      exact fw_loop hS e40 h45 hz P hP d (l + 1) J (by omega) hJ (by rw [hw]; exact h51) (by rw [hw]; exact h52)
/-- what the reference has of the letters that wait -/
def o_R (z : Nat) (nu ce : Nat → Nat) (r : jm_M) : Prop := z ≤ 6 ∧ r 51 0 = nI z ∧ ∀ i, i < z → r 52 i = nI (nu i) ∧ nu i < 2000 ∧ r 41 (nu i) = nI (ce i) ∧ ce i < 128
theorem mc9 {J : jm_M} {n r z : Nat} {o : Nat → Nat} (hn : n ≤ 6) (hz : z ≤ 6) (ho : ∀ j, j < n → o j < z ∧ J 53 j = nI (o j)) (hr : r < z) (K : Prop) (P : Int32 → Prop) (hK : (∀ j, j < n → o j ≠ r) → K) (h0 : (∃ j, j < n ∧ o j = r) → P 0) : ∀ d j, j + d = n → (∀ k, k < j → o k ≠ r) → vr_mayCome_9 (nI n) (nI r) J K P (d + 1) (nI j)
  | 0, j, hj, hq => by
    obtain rfl : j = n := by omega
    unfold vr_mayCome_9
    exact ⟨fun _ => hK hq, fun q => absurd (nI_le (Nat.le_refl _) (by omega)) q⟩
  | d + 1, j, hj, hq => by
    obtain ⟨o1, o2⟩ := ho j (by omega)
    have eo : nI (o j) = nI r ↔ o j = r := nI_eq (by omega) (by omega)
    unfold vr_mayCome_9
    rw [tn_nI (by omega), o2, eo, nI_1]
    refine ⟨fun q => absurd q (nI_ge (by omega) (by omega)), fun _ => ⟨vp_in_nI (by omega) (by omega), fun q => ?_, fun q => h0 ⟨j, by omega, q⟩⟩⟩
    refine mc9 hn hz ho hr K P hK h0 d (j + 1) (by omega) (fun k hk => ?_)
    by_cases e : k = j
    · rw [e]; exact q
    · exact hq k (by omega)
theorem mc73 {J : jm_M} {n i z : Nat} {o : Nat → Nat} {x2 : Int32} (hn : n ≤ 6) (hz : z ≤ 6) (ho : ∀ j, j < n → o j < z ∧ J 53 j = nI (o j)) (hi : i < z) (K P : Int32 → Prop) (h1 : (∃ k, k < n ∧ o k = i) → K 1) (h0 : ¬ (∃ k, k < n ∧ o k = i) → K 0) : ∀ d j (x4 : Int32), j + d = n → ((x4 = 0 ∧ ∀ k, k < j → o k ≠ i) ∨ (x4 = 1 ∧ ∃ k, k < n ∧ o k = i)) → vr_mayCome_73 (nI n) x2 (nI i) J K P (d + 1) x4 (nI j)
  | 0, j, x4, hj, hx => by
    obtain rfl : j = n := by omega
    unfold vr_mayCome_73
    refine ⟨fun _ => ?_, fun q => absurd (nI_le (Nat.le_refl _) (by omega)) q⟩
    rcases hx with ⟨rfl, w⟩ | ⟨rfl, w⟩
    · exact h0 (fun ⟨k, k1, k2⟩ => w k k1 k2)
    · exact h1 w
  | d + 1, j, x4, hj, hx => by
    obtain ⟨o1, o2⟩ := ho j (by omega)
    have eo : nI (o j) = nI i ↔ o j = i := nI_eq (by omega) (by omega)
    unfold vr_mayCome_73
    rw [tn_nI (by omega), o2, eo, nI_1]
    refine ⟨fun q => absurd q (nI_ge (by omega) (by omega)), fun _ => ⟨fun q => ?_, fun q => ⟨vp_in_nI (by omega) (by omega), fun w => ?_, fun w => ?_⟩⟩⟩
    · rcases hx with ⟨u, -⟩ | ⟨-, u⟩
      · exact absurd u q
      · exact mc73 hn hz ho hi K P h1 h0 d (j + 1) 1 (by omega) (Or.inr ⟨rfl, u⟩)
    · rcases hx with ⟨-, u⟩ | ⟨u, -⟩
      · refine mc73 hn hz ho hi K P h1 h0 d (j + 1) 0 (by omega) (Or.inl ⟨rfl, fun k hk => ?_⟩)
        by_cases e : k = j
        · rw [e]; exact w
        · exact u k (by omega)
      · rw [u] at q; exact absurd q (by decide)
    · exact mc73 hn hz ho hi K P h1 h0 d (j + 1) 1 (by omega) (Or.inr ⟨rfl, j, by omega, w⟩)
theorem mc34 {J : jm_M} {n r z : Nat} {nu ce o : Nat → Nat} (hR : o_R z nu ce J) (hn : n ≤ 6) (ho : ∀ j, j < n → o j < z ∧ J 53 j = nI (o j)) (hr : r < z) (P : Int32 → Prop) (h1 : (∀ i, i < r → ce i = ce r → ∃ k, k < n ∧ o k = i) → P 1) (h0 : ¬ (∀ i, i < r → ce i = ce r → ∃ k, k < n ∧ o k = i) → P 0) : ∀ d i, i + d = r → (∀ x, x < i → ce x = ce r → ∃ k, k < n ∧ o k = x) → vr_mayCome_34 (nI n) (nI r) J P (d + 1) (nI i)
  | 0, i, hi, hx => by
    obtain rfl : i = r := by omega
    unfold vr_mayCome_34
    exact ⟨fun _ => h1 hx, fun q => absurd (nI_le (Nat.le_refl _) (by have := hR.1; omega)) q⟩
  | d + 1, i, hi, hx => by
    obtain ⟨hz, e51, hrow⟩ := id hR
    obtain ⟨a1, a2, a3, a4⟩ := hrow i (by omega)
    obtain ⟨b1, b2, b3, b4⟩ := hrow r hr
    have eo : nI (ce i) = nI (ce r) ↔ ce i = ce r := nI_eq (by omega) (by omega)
    have next : (ce i = ce r → ∃ k, k < n ∧ o k = i) → vr_mayCome_34 (nI n) (nI r) J P (d + 1) (nI (i + 1)) := fun w => mc34 hR hn ho hr P h1 h0 d (i + 1) (by omega) (fun x hx2 e => by
      by_cases u : x = i
      · rw [u] at e ⊢; exact w e
      · exact hx x (by omega) e)
    unfold vr_mayCome_34
    rw [tn_nI (by omega), tn_nI (by omega), a1, b1, tn_nI (by omega), tn_nI (by omega), a3, b3, eo, nI_1]
    refine ⟨fun q => absurd q (nI_ge (by omega) (by omega)), fun _ => ⟨vp_in_nI (by omega) (by omega), vp_in_nI (by omega) (by omega), vp_in_nI (by omega) (by omega), vp_in_nI (by omega) (by omega), fun q => ⟨n + 1, ?_⟩, fun q => next (fun e => absurd e q)⟩⟩
    exact mc73 (x2 := nI r) hn hz ho (by omega) _ P (fun w => ⟨fun _ => next (fun _ => w), fun u => absurd u (by decide)⟩) (fun w => ⟨fun u => absurd rfl u, fun _ => h0 (fun u => w (u i (by omega) q))⟩) n 0 0 (by omega) (Or.inl ⟨rfl, fun k hk => absurd hk (Nat.not_lt_zero k)⟩)
/-- the mask of the first n of an order -/
def o_mk (o : Nat → Nat) : Nat → Nat
  | 0 => 0
  | n + 1 => o_mk o n ||| 2 ^ o n
theorem mk_tb (o : Nat → Nat) (i : Nat) : ∀ n, (o_mk o n).testBit i = true ↔ ∃ k, k < n ∧ o k = i
  | 0 => by
    show (0 : Nat).testBit i = true ↔ _
    rw [Nat.zero_testBit]
    exact ⟨fun w => absurd w (by decide), fun ⟨k, hk, _⟩ => absurd hk (Nat.not_lt_zero k)⟩
  | n + 1 => by
    show (o_mk o n ||| 2 ^ o n).testBit i = true ↔ _
    rw [tb_or1, Bool.or_eq_true, decide_eq_true_eq, mk_tb o i n]
    refine ⟨fun w => ?_, fun ⟨k, k1, k2⟩ => ?_⟩
    · rcases w with ⟨k, k1, k2⟩ | w
      · exact ⟨k, by omega, k2⟩
      · exact ⟨n, by omega, w⟩
    · by_cases e : k = n
      · rw [e] at k2; exact Or.inr k2
      · exact Or.inl ⟨k, by omega, k2⟩
theorem mk_ext {o o2 : Nat → Nat} : ∀ n, (∀ j, j < n → o j = o2 j) → o_mk o n = o_mk o2 n
  | 0, _ => rfl
  | n + 1, h => by
    show o_mk o n ||| 2 ^ o n = o_mk o2 n ||| 2 ^ o2 n
    rw [mk_ext n (fun j hj => h j (by omega)), h n (by omega)]
theorem mc_of {J : jm_M} {n r z : Nat} {nu ce o : Nat → Nat} (hR : o_R z nu ce J) (hn : n ≤ 6) (ho : ∀ j, j < n → o j < z ∧ J 53 j = nI (o j)) (hr : r < z) (er : J 53 n = nI r) (P : Int32 → Prop) (h1 : o_cn ce r (o_mk o n) → P 1) (h0 : ¬ o_cn ce r (o_mk o n) → P 0) : vr_mayCome (nI n) J P := by
  obtain ⟨hz, e51, hrow⟩ := id hR
  unfold vr_mayCome
  rw [tn_nI (by omega), er]
  have cn : o_cn ce r (o_mk o n) ↔ (∀ j, j < n → o j ≠ r) ∧ ∀ i, i < r → ce i = ce r → ∃ k, k < n ∧ o k = i := by
    refine ⟨fun w => ⟨fun j hj e => ?_, fun i hi e => (mk_tb o i n).mp (w.2 i hi e)⟩, fun w => ⟨?_, fun i hi e => (mk_tb o i n).mpr (w.2 i hi e)⟩⟩
    · have := (mk_tb o r n).mpr ⟨j, hj, e⟩
      rw [w.1] at this; exact absurd this (by decide)
    · cases hb : (o_mk o n).testBit r with
      | false => rfl
      | true => obtain ⟨k, k1, k2⟩ := (mk_tb o r n).mp hb; exact absurd k2 (w.1 k k1)
  refine ⟨vp_in_nI (by omega) (by omega), nm_e ⟨n + 1, mc9 hn hz ho hr _ P (fun w => ⟨r + 1, ?_⟩) (fun ⟨j, j1, j2⟩ => h0 (fun w => (cn.mp w).1 j j1 j2)) n 0 (by omega) (fun k hk => absurd hk (Nat.not_lt_zero k))⟩⟩
  exact mc34 hR hn ho hr P (fun u => h1 (cn.mpr ⟨w, u⟩)) (fun u => h0 (fun v => u (cn.mp v).2)) r 0 (by omega) (fun x hx => absurd hx (Nat.not_lt_zero x))
/-! the search through all orders -/
def o_J (r0 J : jm_M) (a b : Nat) : Prop := (∀ k, k ≠ 13 → (k < 53 ∨ 56 < k) → J k = r0 k) ∧ J 55 0 = nI a ∧ J 56 0 = nI b
def o_w (z : Nat) (nu tg : Nat → Nat) (x x' : Nat → Int32) (b Bn : Nat) : Prop := ((b ≠ 0 ∨ Bn = 0) → x' = x) ∧ (b = 0 → Bn ≠ 0 → ∀ j, j < z → x' j = nI (nu (tg j)))
/-- what is asked of a leaf's check -/
def o_br (z : Nat) (ce : Nat → Nat) (st : Nat → Prop) (x1 : Int32) (r0 : jm_M) : Prop := (x1 < 0 ∧ ∀ c, st c) ∨ (¬ x1 < 0 ∧ ∀ (o : Nat → Nat) (J : jm_M), (∀ k, k ≠ 13 → (k < 53 ∨ 56 < k) → J k = r0 k) → (∀ j, j < z → o j < z ∧ J 53 j = nI (o j)) → (∀ j, j < z → o_cn ce (o j) (o_mk o j)) → ∃ (x : Int32) (w' : Nat → Int32), (x = 0 ∨ x = 1) ∧ (x = 0 ↔ ∀ j, j ≤ z → st (o_mk o j)) ∧ ∀ Post : Int32 → jm_M → Prop, Post x (jm_u J 13 w') → vr_breaks x1 J Post)
theorem sh59 {z : Nat} {nu ce o : Nat → Nat} {J : jm_M} {x1 x2 : Int32} (hR : o_R z nu ce J) (ho : ∀ j, j < z → o j < z ∧ J 53 j = nI (o j)) (e56 : J 56 0 = 0) : ∀ d k (x : Nat → Int32), k + d = z → (∀ j, j < k → x j = nI (nu (o j))) → ∃ x' : Nat → Int32, (∀ j, j < z → x' j = nI (nu (o j))) ∧ ∀ K Post : jm_M → Prop, K (jm_u J 54 x') → vr_shuffle_59 x1 x2 K Post (d + 1) (nI k) (jm_u J 54 x)
  | 0, k, x, hk, hx => by
    obtain rfl : k = z := by omega
    refine ⟨x, hx, fun K Post hK => ?_⟩
    unfold vr_shuffle_59
    rw [show (jm_u J 54 x) 51 0 = nI k from hR.2.1]
    exact ⟨fun _ => hK, fun q => absurd (nI_le (Nat.le_refl _) (by have := hR.1; omega)) q⟩
  | d + 1, k, x, hk, hx => by
    obtain ⟨hz, e51, hrow⟩ := id hR
    obtain ⟨o1, o2⟩ := ho k (by omega)
    obtain ⟨a1, a2, a3, a4⟩ := hrow (o k) o1
    obtain ⟨x', h1, h2⟩ := sh59 (x1 := x1) (x2 := x2) hR ho e56 d (k + 1) (upd x k (nI (nu (o k)))) (by omega) (fun j hj => by
      by_cases e : j = k
      · rw [e, pk_us]
      · rw [pk_un e]; exact hx j (by omega))
    refine ⟨x', h1, fun K Post hK => ?_⟩
    have f53 : (jm_u J 54 x) 53 k = nI (o k) := o2
    have f52 : (jm_u J 54 x) 52 (o k) = nI (nu (o k)) := a1
    unfold vr_shuffle_59
    rw [show (jm_u J 54 x) 51 0 = nI z from e51, show (jm_u J 54 x) 56 0 = 0 from e56, tn_nI (by omega), f53, tn_nI (by omega), f52]
    refine ⟨fun q => absurd q (nI_ge (by omega) (by omega)), fun _ => ⟨fun q => absurd rfl q, fun _ => ⟨vp_in_nI (by omega) (by omega), vp_in_nI (by omega) (by omega), vp_in_nI (by omega) (by omega), nm_e ?_⟩⟩⟩
    rw [jm_as _ _ _ (by omega), jm_uk, jm_uu, nI_1]
    exact h2 K Post hK
