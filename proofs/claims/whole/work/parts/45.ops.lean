/-- in how many of the first n places two rows differ -/
def b_df (a b : Nat → Int32) : Nat → Nat
  | 0 => 0
  | n + 1 => b_df a b n + (if a n = b n then 0 else 1)
theorem b_df_le (a b : Nat → Int32) : ∀ n, b_df a b n ≤ n
  | 0 => Nat.le_refl 0
  | n + 1 => by have := b_df_le a b n; rw [b_df]; split <;> omega
theorem b_df_ext {a b a2 b2 : Nat → Int32} : ∀ n, (∀ i, i < n → a i = a2 i) → (∀ i, i < n → b i = b2 i) → b_df a b n = b_df a2 b2 n
  | 0, _, _ => rfl
  | n + 1, h1, h2 => by rw [b_df, b_df, b_df_ext n (fun i hi => h1 i (by omega)) (fun i hi => h2 i (by omega)), h1 n (by omega), h2 n (by omega)]
theorem b_df_more {a b : Nat → Int32} {n : Nat} : ∀ d, (∀ i, n ≤ i → i < n + d → a i = b i) → b_df a b (n + d) = b_df a b n
  | 0, _ => rfl
  | d + 1, h => by
    rw [← Nat.add_assoc, b_df, b_df_more d (fun i h1 h2 => h i h1 (by omega)), if_pos (h (n + d) (by omega) (by omega))]
    rfl
theorem uc_loop {g : cm_M} (P : Int32 → Prop) (hp : P (nI (b_df (g.2.2 25) (g.2.2 26) 128))) : ∀ d i, i + d = 128 → vc_X4_unlikeCells_4 g P (d + 1) (nI (b_df (g.2.2 25) (g.2.2 26) i)) (nI i)
  | 0, i, hi => by
    obtain rfl : i = 128 := by omega
    exact ⟨fun _ => hp, fun q => absurd (by decide) q⟩
  | d + 1, i, hi => by
    have t1 : (nI i).toNatClampNeg = i := tn_nI (by omega)
    have i1 : vp_in (nI i) 128 := vp_in_nI (by omega) (by omega)
    have ih := uc_loop P hp d (i + 1) (by omega)
    unfold vc_X4_unlikeCells_4
    rw [t1]
    refine ⟨fun q => absurd q (nI_ge (b := 128) (by omega) (by omega)), fun _ => ⟨i1, i1, fun q => ?_, fun q => ?_⟩⟩
    · rw [b_df, if_pos q, Nat.add_zero] at ih; rw [nI_1]; exact ih
    · rw [b_df, if_neg q] at ih; rw [nI_1, nI_1]; exact ih
theorem uc_of {g : cm_M} (P : Int32 → Prop) (hp : P (nI (b_df (g.2.2 25) (g.2.2 26) 128))) : vc_X4_unlikeCells g P := ⟨129, uc_loop P hp 128 0 (by omega)⟩
theorem df_loop {T : Nat} {g : jm_M} (hT16 : T ≤ 16) (r3 : g 3 0 = nI T) (P : Int32 → Prop) (hp : P (nI (b_df (g 11) (g 12) (8 * T)))) : ∀ d i, i + d = 8 * T → vr_differ_4 g P (d + 1) (nI (b_df (g 11) (g 12) i)) (nI i)
  | 0, i, hi => by
    obtain rfl : i = 8 * T := by omega
    unfold vr_differ_4
    rw [r3, show (8 : Int32) * nI T = nI (8 * T) from pk_mul 8 T]
    exact ⟨fun _ => hp, fun q => absurd (nI_le (Nat.le_refl _) (by omega)) q⟩
  | d + 1, i, hi => by
    have t1 : (nI i).toNatClampNeg = i := tn_nI (by omega)
    have i1 : vp_in (nI i) 128 := vp_in_nI (by omega) (by omega)
    have ih := df_loop hT16 r3 P hp d (i + 1) (by omega)
    unfold vr_differ_4
    rw [t1, r3, show (8 : Int32) * nI T = nI (8 * T) from pk_mul 8 T]
    refine ⟨fun q => absurd q (nI_ge (by omega) (by omega)), fun _ => ⟨i1, i1, fun q => nm_e ?_, fun q => nm_e ?_⟩⟩
    · rw [b_df, if_neg q] at ih; rw [nI_1, nI_1]; exact ih
    · rw [b_df, if_pos q, Nat.add_zero] at ih; rw [nI_1, show nI (b_df (g 11) (g 12) i) + 0 = nI (b_df (g 11) (g 12) i) from nI_add _ 0]; exact ih
theorem df_same {T : Nat} {c r : jm_M} (hT16 : T ≤ 16) (y1 : ∀ i, i < 128 → c 25 i = r 11 i) (y2 : ∀ i, i < 128 → c 26 i = r 12 i) (y3 : ∀ i, 8 * T ≤ i → i < 128 → r 11 i = 0 ∧ r 12 i = 0) : b_df (c 25) (c 26) 128 = b_df (r 11) (r 12) (8 * T) := by
  rw [b_df_ext 128 y1 y2]
  have := b_df_more (a := r 11) (b := r 12) (n := 8 * T) (128 - 8 * T) (fun i h1 h2 => by
    obtain ⟨q1, q2⟩ := y3 i h1 (by omega); rw [q1, q2])
  rw [show 8 * T + (128 - 8 * T) = 128 by omega] at this
  exact this
theorem op_differ {B : Nat} {gC : cm_M} {gR : jm_M} (h : b_R B gC gR) : ∃ (r : Int32), (∀ P : Int32 → Prop, P r → vc_X10_differ gC P) ∧ (∀ P : Int32 → Prop, P r → vr_differ gR P) := by
  obtain ⟨M, T, N, hT, hX, ht, ⟨⟨y1, y2, y3⟩, hr, hk, hu, hs, hL⟩, hW, hP, hA, hI⟩ := id h
  obtain ⟨hM, hT16, hN, c12, r1, c13, r3, c14, r5, -⟩ := id hT
  have e := df_same hT16 y1 y2 y3
  refine ⟨nI (b_df (gR 11) (gR 12) (8 * T)), fun P hp => uc_of _ ?_, fun P hp => ⟨8 * T + 1, df_loop hT16 r3 P hp (8 * T) 0 (by omega)⟩⟩
  rw [e]; exact hp
theorem sy1_loop {gR : jm_M} {x1 : Int32} (K : jm_M → Prop) (Post : Int32 → jm_M → Prop) (hK : ∀ u : Nat → Int32, (∀ i, i < 128 → u i = gR 11 i) → K (jm_u gR 12 u)) : ∀ d i (u : Nat → Int32), i + d = 128 → (∀ j, j < i → u j = gR 11 j) → vr_sync_7 x1 K Post (d + 1) (nI i) (jm_u gR 12 u)
  | 0, i, u, hi, hu => by
    obtain rfl : i = 128 := by omega
    exact ⟨fun _ => hK u hu, fun q => absurd (by decide) q⟩
  | d + 1, i, u, hi, hu => by
    have t1 : (nI i).toNatClampNeg = i := tn_nI (by omega)
    have i1 : vp_in (nI i) 128 := vp_in_nI (by omega) (by omega)
    unfold vr_sync_7
    refine ⟨fun q => absurd q (nI_ge (b := 128) (by omega) (by omega)), fun _ => ⟨i1, i1, nm_e ?_⟩⟩
    have e : jm_a (jm_u gR 12 u) 12 (nI i) ((jm_u gR 12 u) 11 (nI i).toNatClampNeg) = jm_u gR 12 (upd u i (gR 11 i)) := by
      show jm_u (jm_u gR 12 u) 12 (upd u (nI i).toNatClampNeg (gR 11 (nI i).toNatClampNeg)) = _
      rw [jm_uu, t1]
    rw [e, nI_1]
    refine sy1_loop K Post hK d (i + 1) _ (by omega) (fun j hj => ?_)
    by_cases q : j = i
    · subst q; rw [pk_us]
    · rw [pk_un q]; exact hu j (by omega)
theorem sy2_loop {g : jm_M} {x1 : Int32} {S : Nat} (hS : S ≤ 2000) (e40 : g 40 0 = nI S) (K : jm_M → Prop) (Post : Int32 → jm_M → Prop) (hK : ∀ v : Nat → Int32, (∀ i, i < S → v i = 0) → K (jm_u g 45 v)) : ∀ d i (v : Nat → Int32), i + d = S → (∀ j, j < i → v j = 0) → vr_sync_34 x1 K Post (d + 1) (nI i) (jm_u g 45 v)
  | 0, i, v, hi, hu => by
    obtain rfl : i = S := by omega
    have e : jm_u g 45 v 40 0 = nI i := e40
    unfold vr_sync_34
    rw [e]
    exact ⟨fun _ => hK v hu, fun q => absurd (nI_le (Nat.le_refl _) (by omega)) q⟩
  | d + 1, i, v, hi, hu => by
    have t1 : (nI i).toNatClampNeg = i := tn_nI (by omega)
    have e : jm_u g 45 v 40 0 = nI S := e40
    unfold vr_sync_34
    rw [e]
    refine ⟨fun q => absurd q (nI_ge (by omega) (by omega)), fun _ => ⟨vp_in_nI (by omega) (by omega), nm_e ?_⟩⟩
    have e : jm_a (jm_u g 45 v) 45 (nI i) 0 = jm_u g 45 (upd v i 0) := by
      show jm_u (jm_u g 45 v) 45 (upd v (nI i).toNatClampNeg 0) = _
      rw [jm_uu, t1]
    rw [e, nI_1]
    refine sy2_loop hS e40 K Post hK d (i + 1) _ (by omega) (fun j hj => ?_)
    by_cases q : j = i
    · subst q; rw [pk_us]
    · rw [pk_un q]; exact hu j (by omega)
theorem jm_u0 (g : jm_M) (k : Nat) : jm_u g k (g k) = g := by
  funext x
  by_cases q : x = k
  · subst q
    show (bif Nat.beq x x then g x else g x) = g x
    cases Nat.beq x x <;> rfl
  · exact jm_un g _ q
theorem op_sync {B : Nat} {gC : cm_M} {gR : jm_M} (h : b_R B gC gR) : b_ok B (vc_X10_sync gC) (vr_sync gR) := by
  obtain ⟨M, T, N, hT, hX, ht, ⟨⟨y1, y2, y3⟩, hr, hk, ⟨u1, u2, u3, u4, u5, u6⟩, hs, hL⟩, hW, hP, hA, hI⟩ := id h
  obtain ⟨hM, hT16, hN, c12, r1, c13, r3, c14, r5, -⟩ := id hT
  obtain ⟨S, e, l1, l2, l3, l4, l5, l6, l7, l8, l9, l10, l11⟩ := id hL
  have ed := df_same hT16 y1 y2 y3
  refine ⟨nI (b_df (gR 11) (gR 12) (8 * T)), fun g => g = (gC.1, gC.2.1, jm_s (jm_s (jm_s (jm_u gC.2.2 26 (va_cpy (gC.2.2 25) (gC.2.2 26) 0 0 128)) 41 0) 30 0) 33 0), fun g => ∃ u v : Nat → Int32, (∀ i, i < 128 → u i = gR 11 i) ∧ (∀ i, i < S → v i = 0) ∧ g = jm_s (jm_s (jm_u (jm_u gR 12 u) 45 v) 57 0) 58 0, fun P hp => uc_of _ ?_, fun P hp => ?_, ?_⟩
  · rw [ed]
    exact nm_e (nm_e (nm_e (nm_e (hp _ rfl))))
  · refine ⟨8 * T + 1, df_loop hT16 r3 _ ⟨129, ?_⟩ (8 * T) 0 (by omega)⟩
    have m1 := sy1_loop (gR := gR) (x1 := nI (b_df (gR 11) (gR 12) (8 * T))) (fun g4 => ∃ n10 : Nat, vr_sync_34 (nI (b_df (gR 11) (gR 12) (8 * T))) (fun g7 => ∀ g8 : jm_M, g8 = jm_s g7 57 0 → (∀ g9 : jm_M, g9 = jm_s g8 58 0 → (P (nI (b_df (gR 11) (gR 12) (8 * T))) g9))) P n10 0 g4) P (fun u hu => ⟨S + 1, ?_⟩) 128 0 (gR 12) (by omega) (fun j hj => absurd hj (Nat.not_lt_zero j))
    · rw [jm_u0] at m1; exact m1
    · have m2 := sy2_loop (g := jm_u gR 12 u) (x1 := nI (b_df (gR 11) (gR 12) (8 * T))) l1 l3 (fun g7 => ∀ g8 : jm_M, g8 = jm_s g7 57 0 → (∀ g9 : jm_M, g9 = jm_s g8 58 0 → (P (nI (b_df (gR 11) (gR 12) (8 * T))) g9))) P (fun v hv => nm_e (nm_e (hp _ ⟨u, v, hu, hv, rfl⟩))) S 0 ((jm_u gR 12 u) 45) (by omega) (fun j hj => absurd hj (Nat.not_lt_zero j))
      rw [jm_u0] at m2; exact m2
  · rintro g g2 rfl ⟨u, v, hu, hv, rfl⟩
    have wn := wl_nil hv
    have d45 : (jm_s (jm_s (jm_u (jm_u gR 12 u) 45 v) 57 0) 58 0) 45 = v := rfl
    refine ⟨M, T, N, hT, hX, ht, ⟨⟨y1, fun i hi => ?_, fun i hi hi2 => ⟨(y3 i hi hi2).1, ?_⟩⟩, hr, hk, ⟨u1, rfl, Or.inl rfl, u4, u5, rfl⟩, hs, S, e, l1, l2, l3, l4, l5, l6, l7, fun l' hl' => ?_, ?_, ?_, ?_⟩, hW, hP, hA, hI⟩
    · show va_cpy (gC.2.2 25) (gC.2.2 26) 0 0 128 i = u i
      rw [pk_cpy_in (Nat.zero_le i) (by omega), hu i hi, Nat.zero_add, Nat.sub_zero]; exact y1 i hi
    · show u i = 0
      rw [hu i hi2]; exact (y3 i hi hi2).1
    · obtain ⟨k', f', t', m1, m2, m3, m4, m5, m6, m7, m8, m9⟩ := l8 l' hl'
      exact ⟨k', f', t', m1, m2, m3, m4, m5, m6, m7, m8, Or.inl (hv l' hl')⟩
    · rw [d45, wn]; exact Nat.zero_le _
    · rw [d45, wn]; rfl
    · intro j hj
      rw [d45, wn] at hj
      exact absurd hj (Nat.not_lt_zero j)
