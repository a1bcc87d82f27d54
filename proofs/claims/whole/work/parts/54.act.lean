/-! sets of homes -/
/-- the sets after one more act that wrote the homes z -/
def b_S1 (B z : Nat) (n' : Nat → Nat) (c' r : jm_M) : Prop := ∀ r' : jm_M, (r' 27 = if z = 0 then r 27 else upd (r 27) z (r 27 z + 1)) → b_S (B + 1) n' c' r'
theorem add_find {gd : cm_D} {gj : cm_J} {c : jm_M} {K z MC MS : Nat} (hK : K ≤ gd.2.1 0) (hn : gd.2.1 0 < 2 ^ 31) (e36 : c 36 0 = nI K) (K20 : Int32 → Prop) (K37 : Prop) (Post : cm_M → Prop) (h20 : ∀ j, j < K → c 34 j = nI z → K20 (nI j)) (h37 : (∀ j, j < K → c 34 j ≠ nI z) → K37) : ∀ d i, i + d = K → (∀ j, j < i → c 34 j ≠ nI z) → vc_X3_add_2 MC MS (nI z) (gd, gj, c) K20 K37 Post (d + 1) (nI i)
  | 0, i, hi, hq => by
    obtain rfl : i = K := by omega
    have f36 : ((gd, gj, c) : cm_M).2.2 36 0 = nI i := e36
    unfold vc_X3_add_2
    rw [f36]
    exact ⟨fun _ => h37 hq, fun w => absurd (nI_le (Nat.le_refl _) (by omega)) w⟩
  | d + 1, i, hi, hq => by
    have f36 : ((gd, gj, c) : cm_M).2.2 36 0 = nI K := e36
    have t1 : (nI i).toNatClampNeg = i := tn_nI (by omega)
    unfold vc_X3_add_2
    rw [f36, t1]
    refine ⟨fun w => absurd w (nI_ge (by omega) (by omega)), fun _ => ⟨vp_in_nI (show i < gd.2.1 0 by omega) hn, fun w => ?_, fun w => h20 i (by omega) w⟩⟩
    rw [nI_1]
    exact add_find hK hn e36 K20 K37 Post h20 h37 d (i + 1) (by omega) (fun j hj => by
      by_cases q : j = i
      · subst q; exact w
      · exact hq j (by omega))
theorem S_found {B z i : Nat} {n : Nat → Nat} {c c' r : jm_M} (hS : b_S B n c r) (hz : z < 1024) {K : Nat} (e36 : c 36 0 = nI K) (hKn : K < 2 ^ 31) (hi : i < K) (ei : c 34 i = nI z) (e34 : c' 34 = c 34) (f35 : c' 35 = upd (c 35) i (c 35 i + 1)) (f36 : c' 36 = c 36) : b_S1 B z n c' r := by
  intro r' h27
  obtain ⟨K2, e, h1, h2, h3, h4, h5, h6, h7, h8⟩ := hS
  have : K2 = K := by
    rw [e36] at h1
    have h2' : n 0 ≤ 1024 := h4
    exact ((nI_eq (by omega) (by omega)).mp h1).symm
  subst this
  refine ⟨K2, e, by rw [f36]; exact e36, h2, h3, h4, h5, fun j hj => ?_, fun j1 j2 a b => by rw [e34]; exact h7 j1 j2 a b, fun z2 hz2 hz3 hq => ?_⟩
  · obtain ⟨zj, y, a1, a2, a3, a4, a5⟩ := h6 j hj
    rw [e34, f35]
    by_cases q : j = i
    · subst q
      refine ⟨zj, y + 1, a1, a2, by omega, by rw [pk_us, a4, nI_1], fun w => ?_⟩
      have : zj = z := by rw [a2] at ei; exact (nI_eq (by omega) (by omega)).mp ei
      subst this
      rw [h27, if_neg w, pk_us, a5 w, nI_1]
    · refine ⟨zj, y, a1, a2, by omega, by rw [pk_un q, a4], fun w => ?_⟩
      have hne : zj ≠ z := fun e => by
        have e2 : c 34 j = c 34 i := by rw [a2, ei, e]
        rcases Nat.lt_or_ge j i with w2 | w2
        · exact h7 j i w2 hi e2
        · exact h7 i j (by omega) hj e2.symm
      rw [h27]
      split
      · exact a5 w
      · rw [pk_un hne]; exact a5 w
  · rw [e34] at hq
    have hne : z2 ≠ z := fun e => hq i hi (by rw [ei, e])
    rw [h27]
    split
    · exact h8 z2 hz2 hz3 hq
    · rw [pk_un hne]; exact h8 z2 hz2 hz3 hq
theorem S_new {B z K : Nat} {n n' : Nat → Nat} {c c' r : jm_M} (hS : b_S B n c r) (hz : z < 1024) (e36 : c 36 0 = nI K) (hKn : K < 2 ^ 31) (hq : ∀ j, j < K → c 34 j ≠ nI z) (hn : ∃ e, n' 0 = 16 * 2 ^ e) (hn1 : K + 1 ≤ n' 0) (hn2 : n' 0 ≤ 1024) (hn3 : n' 1 = n' 0) (e34 : ∀ j, j < K → c' 34 j = c 34 j) (e35 : ∀ j, j < K → c' 35 j = c 35 j) (f34 : c' 34 K = nI z) (f35 : c' 35 K = 1) (f36 : c' 36 0 = nI (K + 1)) : b_S1 B z n' c' r := by
  intro r' h27
  obtain ⟨K2, e, h1, h2, h3, h4, h5, h6, h7, h8⟩ := hS
  have : K2 = K := by
    rw [e36] at h1
    exact ((nI_eq (by omega) (by omega)).mp h1).symm
  subst this
  obtain ⟨e', he'⟩ := hn
  refine ⟨K2 + 1, e', f36, hn1, he', hn2, hn3, fun j hj => ?_, fun j1 j2 a b => ?_, fun z2 hz2 hz3 hq2 => ?_⟩
  · by_cases q : j = K2
    · subst q
      refine ⟨z, 1, hz, f34, by omega, f35, fun w => ?_⟩
      rw [h27, if_neg w, pk_us, h8 z w hz hq]; rfl
    · obtain ⟨zj, y, a1, a2, a3, a4, a5⟩ := h6 j (by omega)
      refine ⟨zj, y, a1, by rw [e34 j (by omega)]; exact a2, by omega, by rw [e35 j (by omega)]; exact a4, fun w => ?_⟩
      have hne : zj ≠ z := fun e => hq j (by omega) (by rw [a2, e])
      rw [h27]
      split
      · exact a5 w
      · rw [pk_un hne]; exact a5 w
  · by_cases q : j2 = K2
    · subst q
      rw [f34, e34 j1 (by omega)]; exact hq j1 (by omega)
    · rw [e34 j1 (by omega), e34 j2 (by omega)]; exact h7 j1 j2 a (by omega)
  · have hne : z2 ≠ z := fun e => hq2 K2 (by omega) (by rw [f34, e])
    have hold := h8 z2 hz2 hz3 (fun j hj => by have := hq2 j (by omega); rw [e34 j hj] at this; exact this)
    rw [h27]
    split
    · exact hold
    · rw [pk_un hne]; exact hold
theorem S_room {B z K : Nat} {n : Nat → Nat} {c r : jm_M} (hS : b_S B n c r) (hz : z < 1024) (e36 : c 36 0 = nI K) (hKn : K < 2 ^ 31) (hq : ∀ j, j < K → c 34 j ≠ nI z) : K + 1 ≤ 1024 := by
  obtain ⟨K2, e, h1, h2, h3, h4, h5, h6, h7, h8⟩ := hS
  have : K2 = K := by
    rw [e36] at h1
    exact ((nI_eq (by omega) (by omega)).mp h1).symm
  subst this
  have h := nd_len 1024 ((List.range K2).map (fun j => (c 34 j).toNatClampNeg) ++ [z]) (by
    rw [List.nodup_append]
    refine ⟨?_, by simp, fun a ha b hb => ?_⟩
    · unfold List.Nodup
      rw [List.pairwise_map]
      refine List.Pairwise.imp_of_mem ?_ (List.pairwise_lt_range (n := K2))
      intro a b ha hb hab
      rw [List.mem_range] at ha hb
      obtain ⟨za, ya, a1, a2, -⟩ := h6 a ha
      obtain ⟨zb, yb, b1, b2, -⟩ := h6 b hb
      show (c 34 a).toNatClampNeg ≠ (c 34 b).toNatClampNeg
      rw [a2, b2, tn_nI (by omega), tn_nI (by omega)]
      intro e
      exact h7 a b hab hb (by rw [a2, b2, e])
    · rw [List.mem_singleton] at hb
      obtain ⟨j, hj, ej⟩ := List.mem_map.mp ha
      rw [List.mem_range] at hj
      obtain ⟨zj, yj, a1, a2, -⟩ := h6 j hj
      rw [a2, tn_nI (by omega)] at ej
      intro e
      exact hq j hj (by rw [a2, ej, e, hb])) (fun x hx => by
    rcases List.mem_append.mp hx with q | q
    · obtain ⟨j, hj, ej⟩ := List.mem_map.mp q
      rw [List.mem_range] at hj
      obtain ⟨zj, yj, a1, a2, -⟩ := h6 j hj
      rw [a2, tn_nI (by omega)] at ej
      omega
    · rw [List.mem_singleton] at q; omega)
  simp at h
  omega
theorem add_of {B z : Nat} {gd : cm_D} {gj : cm_J} {c r : jm_M} (hS : b_S B gd.2.1 c r) (hz : z < 1024) {MC MS : Nat} (hMC : 2 ≤ MC) (hMS : 2048 ≤ MS) (P : cm_M → Prop) (hp : ∀ (a' n' : Nat → Nat) (f34 f35 f36 : Nat → Int32), n' 2 = gd.2.1 2 → n' 3 = gd.2.1 3 → b_S1 B z n' (jm_u (jm_u (jm_u c 34 f34) 35 f35) 36 f36) r → P ((a', n', gd.2.2), gj, jm_u (jm_u (jm_u c 34 f34) 35 f35) 36 f36)) : vc_X3_add MC MS (nI z) (gd, gj, c) P := by
  obtain ⟨K, e, h1, h2, h3, h4, h5, h6, h7, h8⟩ := id hS
  have tK : (nI K).toNatClampNeg = K := tn_nI (by omega)
  refine ⟨K + 1, add_find (K := K) h2 (by omega) h1 _ _ _ (fun j hj ej => ?_) (fun hq => ?_) K 0 (by omega) (fun j hj => absurd hj (Nat.not_lt_zero j))⟩
  · have tj : (nI j).toNatClampNeg = j := tn_nI (by omega)
    have ij1 : vp_in (nI j) (gd.2.1 1) := vp_in_nI (by omega) (by omega)
    refine ⟨ij1, ij1, nm_e ?_⟩
    have e1 : cm_a (gd, gj, c) 35 (nI j) (((gd, gj, c) : cm_M).2.2 35 (nI j).toNatClampNeg + 1) = ((gd.1, gd.2.1, gd.2.2), gj, jm_u (jm_u (jm_u c 34 (c 34)) 35 (upd (c 35) j (c 35 j + 1))) 36 (c 36)) := by
      show (gd, gj, jm_u c 35 (upd (c 35) (nI j).toNatClampNeg (c 35 (nI j).toNatClampNeg + 1))) = _
      rw [tj, jm_u0]
      have : c 36 = (jm_u c 35 (upd (c 35) j (c 35 j + 1))) 36 := rfl
      rw [this, jm_u0]
    rw [e1]
    exact hp gd.1 gd.2.1 _ _ _ rfl rfl (S_found hS hz h1 (by omega) hj ej rfl rfl rfl)
  · have hroom := S_room hS hz h1 (by omega) hq
    have f36 : ((gd, gj, c) : cm_M).2.2 36 0 = nI K := h1
    rw [f36]
    refine ⟨fun hlt => ?_, fun hge => ?_⟩
    · have hK0 : K < gd.2.1 0 := (nI_ltI (a := K) (b := gd.2.1 0) (by omega) (by omega)).mp hlt
      refine ⟨vp_in_nI hK0 (by show gd.2.1 0 < _; omega), nm_e ?_⟩
      have g36 : (cm_a (gd, gj, c) 34 (nI K) (nI z)).2.2 36 0 = nI K := h1
      rw [g36]
      refine ⟨vp_in_nI (show K < gd.2.1 1 by omega) (show gd.2.1 1 < _ by omega), nm_e (nm_e ?_)⟩
      have g36b : (cm_a (cm_a (gd, gj, c) 34 (nI K) (nI z)) 35 (nI K) 1).2.2 36 0 = nI K := h1
      rw [g36b, nI_1]
      have e1 : cm_s (cm_a (cm_a (gd, gj, c) 34 (nI K) (nI z)) 35 (nI K) 1) 36 (nI (K + 1)) = ((gd.1, gd.2.1, gd.2.2), gj, jm_u (jm_u (jm_u c 34 (upd (c 34) K (nI z))) 35 (upd (c 35) K 1)) 36 (upd (c 36) 0 (nI (K + 1)))) := by
        show (gd, gj, jm_u (jm_u (jm_u c 34 (upd (c 34) (nI K).toNatClampNeg (nI z))) 35 (upd (c 35) (nI K).toNatClampNeg 1)) 36 (upd (c 36) 0 (nI (K + 1)))) = _
        rw [tK]
      rw [e1]
      exact hp gd.1 gd.2.1 _ _ _ rfl rfl (S_new hS hz h1 (by omega) hq ⟨e, h3⟩ (by omega) h4 h5 (fun j hj => pk_un (by omega)) (fun j hj => pk_un (by omega)) pk_us pk_us rfl)
    · have hK0 : K = gd.2.1 0 := by
        rcases Nat.lt_or_ge K (gd.2.1 0) with w | w
        · exact absurd ((nI_ltI (a := K) (b := gd.2.1 0) (by omega) (by omega)).mpr w) hge
        · omega
      have hK16 : 16 ≤ K := by
        rw [hK0, h3]; have := Nat.one_le_two_pow (n := e); omega
      have hK512 : K ≤ 512 := by
        rw [hK0, h3]
        have hlt : 16 * 2 ^ e < 1024 := by rw [← h3, ← hK0]; omega
        have he : e ≤ 5 := by
          rcases Nat.lt_or_ge 5 e with w | w
          · have : 2 ^ 6 ≤ 2 ^ e := Nat.pow_le_pow_right (by omega) (by omega)
            omega
          · exact w
        have : 2 ^ e ≤ 2 ^ 5 := Nat.pow_le_pow_right (by omega) he
        omega
      have y2 : nI K * 2 = nI (K * 2) := pk_mul K 2
      have t2 : (nI (K * 2)).toNatClampNeg = K * 2 := tn_nI (by omega)
      rw [y2]
      refine nm_e ⟨nI_pos (by omega), fun w => ?_, ?_, ?_, by omega, ?_, fun q10 => nm_e ?_⟩
      · have := (nI_eq (a := K * 2) (b := gd.2.1 0) (by omega) (by omega)).mp w; omega
      · rw [t2]; show gd.2.1 0 ≤ _; omega
      · rw [t2]; omega
      · rw [t2]; omega
      · have g36 : (cm_grow (gd, gj, c) 0 34 q10 (nI (K * 2)).toNatClampNeg (va_cpy (((gd, gj, c) : cm_M).2.2 34) (fun _ => 0) 0 0 (((gd, gj, c) : cm_M).1.2.1 0))).2.2 36 0 = nI K := h1
        rw [g36, y2]
        have l1 : (cm_grow (gd, gj, c) 0 34 q10 (nI (K * 2)).toNatClampNeg (va_cpy (((gd, gj, c) : cm_M).2.2 34) (fun _ => 0) 0 0 (((gd, gj, c) : cm_M).1.2.1 0))).1.2.1 1 = K := by
          show va_up gd.2.1 0 (nI (K * 2)).toNatClampNeg 1 = K
          rw [va_up_ne _ _ (by decide), h5, ← hK0]
        refine nm_e ⟨nI_pos (by omega), ?_, ?_, ?_, by omega, ?_, fun q13 => nm_e ?_⟩
        · rw [l1]; intro w; have := (nI_eq (a := K * 2) (b := K) (by omega) (by omega)).mp w; omega
        · rw [l1, t2]; omega
        · rw [t2]; omega
        · rw [t2]; omega
        · obtain ⟨G, hG⟩ : ∃ G, G = cm_grow (cm_grow (gd, gj, c) 0 34 q10 (nI (K * 2)).toNatClampNeg (va_cpy (((gd, gj, c) : cm_M).2.2 34) (fun _ => 0) 0 0 (((gd, gj, c) : cm_M).1.2.1 0))) 1 35 q13 (nI (K * 2)).toNatClampNeg (va_cpy ((cm_grow (gd, gj, c) 0 34 q10 (nI (K * 2)).toNatClampNeg (va_cpy (((gd, gj, c) : cm_M).2.2 34) (fun _ => 0) 0 0 (((gd, gj, c) : cm_M).1.2.1 0))).2.2 35) (fun _ => 0) 0 0 ((cm_grow (gd, gj, c) 0 34 q10 (nI (K * 2)).toNatClampNeg (va_cpy (((gd, gj, c) : cm_M).2.2 34) (fun _ => 0) 0 0 (((gd, gj, c) : cm_M).1.2.1 0))).1.2.1 1)) := ⟨_, rfl⟩
          rw [← hG]
          obtain ⟨n', hn'⟩ : ∃ n' : Nat → Nat, n' = va_up (va_up gd.2.1 0 (K * 2)) 1 (K * 2) := ⟨_, rfl⟩
          have hG2 : G = ((va_up (va_up gd.1 0 q10) 1 q13, n', gd.2.2), gj, jm_u (jm_u c 34 (va_cpy (c 34) (fun _ => 0) 0 0 K)) 35 (va_cpy (c 35) (fun _ => 0) 0 0 K)) := by
            rw [hG, l1, t2, hn', hK0]; rfl
          have n0 : n' 0 = K * 2 := by rw [hn', va_up_ne _ _ (by decide), va_up_self]
          have n1 : n' 1 = K * 2 := by rw [hn', va_up_self]
          have n2 : n' 2 = gd.2.1 2 := by rw [hn', va_up_ne _ _ (by decide), va_up_ne _ _ (by decide)]
          have n3 : n' 3 = gd.2.1 3 := by rw [hn', va_up_ne _ _ (by decide), va_up_ne _ _ (by decide)]
          have k36 : G.2.2 36 0 = nI K := by rw [hG2]; exact h1
          have kl0 : G.1.2.1 0 = K * 2 := by rw [hG2]; exact n0
          rw [k36, kl0]
          refine ⟨vp_in_nI (by omega) (by omega), nm_e ?_⟩
          have k36b : (cm_a G 34 (nI K) (nI z)).2.2 36 0 = nI K := k36
          have kl1 : (cm_a G 34 (nI K) (nI z)).1.2.1 1 = K * 2 := by rw [hG2]; exact n1
          rw [k36b, kl1]
          refine ⟨vp_in_nI (by omega) (by omega), nm_e (nm_e ?_)⟩
          have k36c : (cm_a (cm_a G 34 (nI K) (nI z)) 35 (nI K) 1).2.2 36 0 = nI K := k36
          rw [k36c, nI_1]
          refine ⟨by omega, by rw [t2]; omega, ?_⟩
          have e1 : cm_s (cm_a (cm_a G 34 (nI K) (nI z)) 35 (nI K) 1) 36 (nI (K + 1)) = ((va_up (va_up gd.1 0 q10) 1 q13, n', gd.2.2), gj, jm_u (jm_u (jm_u c 34 (upd (va_cpy (c 34) (fun _ => 0) 0 0 K) K (nI z))) 35 (upd (va_cpy (c 35) (fun _ => 0) 0 0 K) K 1)) 36 (upd (c 36) 0 (nI (K + 1)))) := by
            rw [hG2]
            show ((va_up (va_up gd.1 0 q10) 1 q13, n', gd.2.2), gj, jm_u (jm_u (jm_u (jm_u (jm_u c 34 (va_cpy (c 34) (fun _ => 0) 0 0 K)) 35 (va_cpy (c 35) (fun _ => 0) 0 0 K)) 34 (upd (va_cpy (c 34) (fun _ => 0) 0 0 K) (nI K).toNatClampNeg (nI z))) 35 (upd (va_cpy (c 35) (fun _ => 0) 0 0 K) (nI K).toNatClampNeg 1)) 36 (upd (c 36) 0 (nI (K + 1)))) = _
            rw [tK]
            congr 2
            funext x
            by_cases w : x = 36
            · subst w; rfl
            · by_cases w2 : x = 35
              · subst w2; rfl
              · by_cases w3 : x = 34
                · subst w3; rfl
                · rw [jm_un _ _ w, jm_un _ _ w2, jm_un _ _ w3, jm_un _ _ w2, jm_un _ _ w3, jm_un _ _ w, jm_un _ _ w2, jm_un _ _ w3]
          rw [e1]
          refine hp _ n' _ _ _ n2 n3 (S_new hS hz h1 (by omega) hq ⟨e + 1, ?_⟩ (by omega) (by omega) (by rw [n0, n1]) (fun j hj => ?_) (fun j hj => ?_) pk_us pk_us rfl)
          · rw [n0, hK0, h3, Nat.pow_succ]; omega
          · show upd (va_cpy (c 34) (fun _ => 0) 0 0 K) K (nI z) j = _
            rw [pk_un (by omega), pk_cpy_in (Nat.zero_le j) (by omega), Nat.zero_add, Nat.sub_zero]
          · show upd (va_cpy (c 35) (fun _ => 0) 0 0 K) K 1 j = _
            rw [pk_un (by omega), pk_cpy_in (Nat.zero_le j) (by omega), Nat.zero_add, Nat.sub_zero]
