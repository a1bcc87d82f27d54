/-! a letter more -/
theorem ja_un (g : jm_M) {k j : Nat} (i x : Int32) (h : j ≠ k) : jm_a g k i x j = g j := jm_un _ _ h
theorem js_un (g : jm_M) {k j : Nat} (x : Int32) (h : j ≠ k) : jm_s g k x j = g j := jm_un _ _ h
theorem wl_ext {f g : Nat → Int32} : ∀ S, (∀ l, l < S → f l = g l) → b_wl f S = b_wl g S
  | 0, _ => rfl
  | S + 1, h => by
    rw [b_wl_succ, b_wl_succ, h S (Nat.lt_succ_self S), wl_ext S (fun l hl => h l (by omega))]
theorem wl_more (f : Nat → Int32) (S : Nat) : b_wl (upd f S 1) (S + 1) = b_wl f S ++ [S] := by
  rw [b_wl_succ, pk_us, if_pos rfl, wl_ext S (fun l hl => pk_un (by omega))]
theorem L_add {T S z o t : Nat} {v : Int32} {n n' : Nat → Nat} {c c' r r' : jm_M} (hL : b_L T n c r) (e40 : r 40 0 = nI S) (hS : S < 2000) (hw : (b_wl (r 45) S).length < 40) (hz : z < 8 * T) (ho : o < 6) (ht : t < 6) (hn : ∃ e, n' 2 = 32 * 2 ^ e) (hn1 : S + 1 ≤ n' 2) (hn2 : n' 2 ≤ 2048) (hn3 : n' 3 = n' 2) (f40 : c' 40 0 = nI (S + 1)) (f37 : ∀ l, l < S → c' 37 l = c 37 l) (f37s : c' 37 S = nI ((z * 6 + o) * 6 + t)) (f38 : ∀ l, l < S → c' 38 l = c 38 l) (f38s : c' 38 S = v) (f39 : c' 39 = upd (c 39) (b_wl (r 45) S).length (nI S)) (f41 : c' 41 0 = nI ((b_wl (r 45) S).length + 1)) (r40 : r' 40 0 = nI (S + 1)) (r41 : r' 41 = upd (r 41) S (nI z)) (r42 : r' 42 = upd (r 42) S v) (r43 : r' 43 = upd (r 43) S (nI o)) (r44 : r' 44 = upd (r 44) S (nI t)) (r45 : r' 45 = upd (r 45) S 1) : b_L T n' c' r' := by
  obtain ⟨S0, e, l1, l2, l3, l4, l5, l6, l7, l8, l9, l10, l11⟩ := hL
  obtain rfl : S0 = S := (nI_eq (by omega) (by omega)).mp (l3.symm.trans e40)
  obtain ⟨e', he'⟩ := hn
  have hwl : b_wl (r' 45) (S0 + 1) = b_wl (r 45) S0 ++ [S0] := by rw [r45, wl_more]
  refine ⟨S0 + 1, e', by omega, f40, r40, hn1, he', hn2, hn3, fun l hl => ?_, ?_, ?_, fun j hj => ?_⟩
  · rw [r41, r42, r43, r44, r45]
    by_cases q : l = S0
    · subst q
      exact ⟨z, o, t, hz, ho, ht, pk_us, pk_us, pk_us, f37s, by rw [pk_us]; exact f38s, Or.inr pk_us⟩
    · obtain ⟨k, f, t2, a1, a2, a3, a4, a5, a6, a7, a8, a9⟩ := l8 l (by omega)
      rw [pk_un q, pk_un q, pk_un q, pk_un q, pk_un q]
      exact ⟨k, f, t2, a1, a2, a3, a4, a5, a6, by rw [f37 l (by omega)]; exact a7, by rw [f38 l (by omega)]; exact a8, a9⟩
  · rw [hwl, List.length_append]; simp; omega
  · rw [hwl, List.length_append]; exact f41
  · rw [hwl] at hj ⊢
    rw [List.length_append] at hj
    have hj2 : j < (b_wl (r 45) S0).length + 1 := hj
    rw [gd_app, f39]
    by_cases q : j = (b_wl (r 45) S0).length
    · rw [if_pos q, q, pk_us]
    · rw [if_neg q, pk_un q]; exact l11 j (by omega)
theorem send_of {T S z o t : Nat} {v : Int32} {gd : cm_D} {gj : cm_J} {c r : jm_M} (hT16 : T ≤ 16) (hL : b_L T gd.2.1 c r) (e40 : r 40 0 = nI S) (hS : S < 2000) (hw : (b_wl (r 45) S).length < 40) (hz : z < 8 * T) (ho : o < 6) (ht : t < 6) : ∃ mc ms : Nat, 64 * mc ≤ ms ∧ ms + 4 * gd.2.1 2 ≤ 8192 ∧ ∀ P : cm_M → Prop, (∀ (a' n' : Nat → Nat) (c' : jm_M), n' 0 = gd.2.1 0 → n' 1 = gd.2.1 1 → ms + 4 * gd.2.1 2 = 4 * n' 2 → (∀ k, (k < 37 ∨ 41 < k) → c' k = c k) → (∀ r' : jm_M, r' 40 0 = nI (S + 1) → r' 41 = upd (r 41) S (nI z) → r' 42 = upd (r 42) S v → r' 43 = upd (r 43) S (nI o) → r' 44 = upd (r 44) S (nI t) → r' 45 = upd (r 45) S 1 → b_L T n' c' r') → P ((a', n', gd.2.2), gj, c')) → vc_X6_send mc ms (nI z) v (nI o) (nI t) (gd, gj, c) P := by
  obtain ⟨S0, e, l1, l2, l3, l4, l5, l6, l7, l8, l9, l10, l11⟩ := id hL
  obtain rfl : S0 = S := (nI_eq (by omega) (by omega)).mp (l3.symm.trans e40)
  obtain ⟨w, hwe⟩ : ∃ w, w = (b_wl (r 45) S0).length := ⟨_, rfl⟩
  have hw2 : w < 40 := by omega
  have l10' : c 41 0 = nI w := by rw [hwe]; exact l10
  have tS : (nI S0).toNatClampNeg = S0 := tn_nI (by omega)
  have tw : (nI w).toNatClampNeg = w := tn_nI (by omega)
  have ead : (nI z * 6 + nI o) * 6 + nI t = nI ((z * 6 + o) * 6 + t) := by
    have h6 : (6 : Int32) = nI 6 := rfl
    rw [h6, pk_mul, nI_add, pk_mul, nI_add]
  rcases Nat.lt_or_ge S0 (gd.2.1 2) with hlt | hge
  · refine ⟨0, 0, by omega, by omega, fun P hp => ?_⟩
    unfold vc_X6_send
    have f40 : ((gd, gj, c) : cm_M).2.2 40 0 = nI S0 := l2
    rw [f40]
    refine ⟨fun _ => ⟨vp_in_nI hlt (by show gd.2.1 2 < _; omega), fun g2 h2 => ?_⟩, fun q => absurd (nI_lt hlt (by omega)) q⟩
    have g40 : g2.2.2 40 0 = nI S0 := by rw [h2]; exact l2
    have gn : g2.1.2.1 3 = gd.2.1 3 := by rw [h2]; rfl
    rw [g40, gn]
    refine ⟨vp_in_nI (by omega) (by omega), fun g3 h3 => ?_⟩
    have k40 : g3.2.2 40 0 = nI S0 := by rw [h3]; exact g40
    have k41 : g3.2.2 41 0 = nI w := by rw [h3, h2]; exact l10'
    rw [k40, k41]
    refine ⟨vp_in_nI (by omega) (by omega), fun g4 h4 g5 h5 g6 h6 => ?_⟩
    have m40 : g5.2.2 40 0 = nI S0 := by rw [h5, h4]; exact k40
    have m41 : g4.2.2 41 0 = nI w := by rw [h4]; exact k41
    rw [m41, nI_1] at h5
    rw [m40, nI_1] at h6
    rw [ead] at h2
    subst h6; subst h5; subst h4; subst h3; subst h2
    refine hp gd.1 gd.2.1 _ rfl rfl (by omega) (fun k hk => ?_) (fun r' r40 r41 r42 r43 r44 r45 => ?_)
    · show jm_s (jm_s (jm_a (jm_a (jm_a c 37 _ _) 38 _ _) 39 _ _) 41 _) 40 _ k = _
      rw [js_un _ _ (by omega), js_un _ _ (by omega), ja_un _ _ _ (by omega), ja_un _ _ _ (by omega), ja_un _ _ _ (by omega)]
    · refine L_add hL e40 hS hw hz ho ht ⟨e, l5⟩ (by omega) l6 l7 rfl (fun l hl => ?_) ?_ (fun l hl => ?_) ?_ ?_ ?_ r40 r41 r42 r43 r44 r45
      · show upd (c 37) (nI S0).toNatClampNeg _ l = _
        rw [tS, pk_un (by omega)]
      · show upd (c 37) (nI S0).toNatClampNeg _ S0 = _
        rw [tS, pk_us]
      · show upd (c 38) (nI S0).toNatClampNeg _ l = _
        rw [tS, pk_un (by omega)]
      · show upd (c 38) (nI S0).toNatClampNeg _ S0 = _
        rw [tS, pk_us]
      · show upd (c 39) (nI w).toNatClampNeg _ = _
        rw [tw, hwe]
      · rw [← hwe]; rfl
  · have hSn : S0 = gd.2.1 2 := by omega
    have h32 : 32 ≤ S0 := by rw [hSn, l5]; have := Nat.one_le_two_pow (n := e); omega
    have h1024 : S0 ≤ 1024 := by
      rw [hSn, l5]
      have hlt : 32 * 2 ^ e < 2000 := by rw [← l5, ← hSn]; omega
      have he : e ≤ 5 := by
        rcases Nat.lt_or_ge 5 e with q | q
        · have : 2 ^ 6 ≤ 2 ^ e := Nat.pow_le_pow_right (by omega) (by omega)
          omega
        · exact q
      have : 2 ^ e ≤ 2 ^ 5 := Nat.pow_le_pow_right (by omega) he
      omega
    refine ⟨2, 4 * S0, by omega, by omega, fun P hp => ?_⟩
    unfold vc_X6_send
    have f40 : ((gd, gj, c) : cm_M).2.2 40 0 = nI S0 := l2
    have y2 : nI S0 * 2 = nI (S0 * 2) := pk_mul S0 2
    have t2 : (nI (S0 * 2)).toNatClampNeg = S0 * 2 := tn_nI (by omega)
    rw [f40, y2]
    refine ⟨fun q => absurd q (nI_nlt (a := S0) (b := gd.2.1 2) (by omega) (by omega)), fun _ => nm_e ⟨nI_pos (by omega), fun q => ?_, ?_, ?_, by omega, ?_, fun q8 g9 h9 => ?_⟩⟩
    · have := (nI_eq (a := S0 * 2) (b := gd.2.1 2) (by omega) (by omega)).mp q; omega
    · rw [t2]; show gd.2.1 2 ≤ _; omega
    · rw [t2]; omega
    · rw [t2]; omega
    · have g40 : g9.2.2 40 0 = nI S0 := by rw [h9]; exact l2
      have gn3 : g9.1.2.1 3 = S0 := by
        rw [h9]
        show va_up gd.2.1 2 (nI (S0 * 2)).toNatClampNeg 3 = S0
        rw [va_up_ne _ _ (by decide), l7, ← hSn]
      rw [g40, y2, gn3]
      refine nm_e ⟨nI_pos (by omega), fun q => ?_, ?_, ?_, by omega, ?_, fun q11 g12 h12 => ?_⟩
      · have := (nI_eq (a := S0 * 2) (b := S0) (by omega) (by omega)).mp q; omega
      · rw [t2]; omega
      · rw [t2]; omega
      · rw [t2]; omega
      · obtain ⟨n', hn'⟩ : ∃ n' : Nat → Nat, n' = va_up (va_up gd.2.1 2 (S0 * 2)) 3 (S0 * 2) := ⟨_, rfl⟩
        have hG : g12 = ((va_up (va_up gd.1 2 q8) 3 q11, n', gd.2.2), gj, jm_u (jm_u c 37 (va_cpy (c 37) (fun _ => 0) 0 0 S0)) 38 (va_cpy (c 38) (fun _ => 0) 0 0 S0)) := by
          rw [h12, h9, t2, hn', hSn]; rfl
        have n0 : n' 0 = gd.2.1 0 := by rw [hn', va_up_ne _ _ (by decide), va_up_ne _ _ (by decide)]
        have n1 : n' 1 = gd.2.1 1 := by rw [hn', va_up_ne _ _ (by decide), va_up_ne _ _ (by decide)]
        have n2 : n' 2 = S0 * 2 := by rw [hn', va_up_ne _ _ (by decide), va_up_self]
        have n3 : n' 3 = S0 * 2 := by rw [hn', va_up_self]
        have k40 : g12.2.2 40 0 = nI S0 := by rw [hG]; exact l2
        have kn2 : g12.1.2.1 2 = S0 * 2 := by rw [hG]; exact n2
        rw [k40, kn2]
        refine ⟨vp_in_nI (by omega) (by omega), fun g13 h13 => ?_⟩
        have m40 : g13.2.2 40 0 = nI S0 := by rw [h13]; exact k40
        have mn3 : g13.1.2.1 3 = S0 * 2 := by rw [h13, hG]; exact n3
        rw [m40, mn3]
        refine ⟨vp_in_nI (by omega) (by omega), fun g14 h14 => ?_⟩
        have p40 : g14.2.2 40 0 = nI S0 := by rw [h14]; exact m40
        have p41 : g14.2.2 41 0 = nI w := by rw [h14, h13, hG]; exact l10'
        rw [p40, p41]
        refine ⟨vp_in_nI (by omega) (by omega), fun g15 h15 g16 h16 g17 h17 => ⟨by omega, by rw [t2]; omega, ?_⟩⟩
        have s40 : g16.2.2 40 0 = nI S0 := by rw [h16, h15]; exact p40
        have s41 : g15.2.2 41 0 = nI w := by rw [h15]; exact p41
        rw [s41, nI_1] at h16
        rw [s40, nI_1] at h17
        rw [ead] at h13
        subst h17; subst h16; subst h15; subst h14; subst h13
        rw [hG]
        refine hp (va_up (va_up gd.1 2 q8) 3 q11) n' _ n0 n1 (by omega) (fun k hk => ?_) (fun r' r40 r41 r42 r43 r44 r45 => ?_)
        · show jm_s (jm_s (jm_a (jm_a (jm_a (jm_u (jm_u c 37 _) 38 _) 37 _ _) 38 _ _) 39 _ _) 41 _) 40 _ k = _
          rw [js_un _ _ (by omega), js_un _ _ (by omega), ja_un _ _ _ (by omega), ja_un _ _ _ (by omega), ja_un _ _ _ (by omega), jm_un _ _ (by omega), jm_un _ _ (by omega)]
        · refine L_add hL e40 hS hw hz ho ht ⟨e + 1, by rw [n2, hSn, l5, Nat.pow_succ]; omega⟩ (by omega) (by omega) (by omega) rfl (fun l hl => ?_) ?_ (fun l hl => ?_) ?_ ?_ ?_ r40 r41 r42 r43 r44 r45
          · show upd (va_cpy (c 37) (fun _ => 0) 0 0 S0) (nI S0).toNatClampNeg _ l = _
            rw [tS, pk_un (by omega), pk_cpy_in (Nat.zero_le l) (by omega), Nat.zero_add, Nat.sub_zero]
          · show upd (va_cpy (c 37) (fun _ => 0) 0 0 S0) (nI S0).toNatClampNeg _ S0 = _
            rw [tS, pk_us]
          · show upd (va_cpy (c 38) (fun _ => 0) 0 0 S0) (nI S0).toNatClampNeg _ l = _
            rw [tS, pk_un (by omega), pk_cpy_in (Nat.zero_le l) (by omega), Nat.zero_add, Nat.sub_zero]
          · show upd (va_cpy (c 38) (fun _ => 0) 0 0 S0) (nI S0).toNatClampNeg _ S0 = _
            rw [tS, pk_us]
          · show upd (c 39) (nI w).toNatClampNeg _ = _
            rw [tw, hwe]
          · rw [← hwe]; rfl
