theorem vc_has_iff {K : Nat} {g : cm_M} (h : g.2.2 59 0 = nI K) (a : Int32) (P : Int32 → Prop) : vc_X5_has a g P ↔ P (if a < 0 ∨ nI K ≤ a then 0 else 1) := by
  unfold vc_X5_has
  rw [h]
  by_cases h1 : a < 0
  · simp [h1]
  · by_cases h2 : nI K ≤ a <;> simp [h1, h2]
theorem vr_isLaw_iff {K : Nat} (hK : K ≤ 10) {g : jm_M} (h : g 46 0 = nI K) (a : Int32) (P : Int32 → Prop) : vr_isLaw a g P ↔ P (if a < 0 ∨ nI K ≤ a then 0 else 1) := by
  unfold vr_isLaw
  rw [vr_idx (by omega) g _ h]
  simp [b01]
theorem op_room {B : Nat} {gC : cm_M} {gR : jm_M} (h : b_R B gC gR) (a b : Int32) : ∃ (r : Int32) (gR' : jm_M), (∀ P : Int32 → cm_M → Prop, (∀ g, b_R B g gR' → P r g) → vc_X10_room a b gC P) ∧ (∀ P : Int32 → jm_M → Prop, P r gR' → vr_room a b gR P) := by
  obtain ⟨M, T, N, hT, hX, ht, ⟨hc, ⟨v1, v2⟩, hk, hu, hs, hl⟩, hW, hP, hA, hI⟩ := id h
  obtain ⟨hM, hT16, hN, c12, r1, c13, r3, c14, r5, -⟩ := id hT
  have e6 : b < 6 ↔ ¬ 5 < b := i_lt_lt b 5 6 (by decide)
  rcases ix_cases a (n := M) (by omega) with h1 | ⟨i, hi, rfl, h1⟩
  · refine ⟨-1, gR, fun P hp => ?_, fun P hp => ?_⟩
    · simp [vc_X10_room, vc_hasModule_iff c12, h1, hp _ h]
    · simp [vr_room, vr_isModule_iff hM r1, h1, hp]
  by_cases h2 : b < 0 ∨ 5 < b
  · refine ⟨-1, gR, fun P hp => ?_, fun P hp => ?_⟩
    · rcases h2 with h2 | h2 <;> simp [vc_X10_room, vc_hasModule_iff c12, h1, h2, e6, hp _ h]
    · simp [vr_room, vr_isModule_iff hM r1, vr_isRoom, vr_in_iff, h1, h2, jj_nb0, hp]
  obtain ⟨q1, q2⟩ := not_or.mp h2
  obtain ⟨z, hz, rfl⟩ : ∃ i : Nat, i < 6 ∧ b = nI i := ni_le (n := 6) (by omega) q1 (fun q => q2 ((i_lt_le b 5 6 (by decide)).mp q))
  by_cases h3 : gC.2.2 41 0 ≤ 0
  · have t1 : (nI i).toNatClampNeg = i := tn_nI (by omega)
    have i1 : vp_in (nI i) 10 := vp_in_nI (by omega) (by omega)
    refine ⟨gR 30 i, jm_a gR 30 (nI i) (nI z), fun P hp => ?_, fun P hp => ?_⟩
    · simp [vc_X10_room, vc_hasModule_iff c12, h1, q1, q2, e6, h3, i1, t1, v1 i (by omega)]
      refine hp _ ⟨M, T, N, hT, hX, ht, ⟨hc, ⟨fun j hj => ?_, fun j hj => ?_⟩, hk, hu, hs, hl⟩, hW, hP, hA, hI⟩
      · show upd (gC.2.2 27) (nI i).toNatClampNeg (nI z) j = upd (gR 30) (nI i).toNatClampNeg (nI z) j
        rw [t1]
        by_cases e : j = i
        · subst e; rw [pk_us, pk_us]
        · rw [pk_un e, pk_un e]; exact v1 j hj
      · show ∃ z2 : Nat, z2 < 6 ∧ upd (gR 30) (nI i).toNatClampNeg (nI z) j = nI z2
        rw [t1]
        by_cases e : j = i
        · subst e; exact ⟨z, hz, pk_us⟩
        · rw [pk_un e]; exact v2 j hj
    · simp [vr_room, vr_isModule_iff hM r1, vr_isRoom, vr_in_iff, h1, h2, jj_nb1]
      refine vr_waitingNow_of hl ?_
      exact ⟨fun _ => by rw [t1]; exact ⟨i1, hp⟩, fun q => absurd h3 (Int32.not_le.mpr q)⟩
  · refine ⟨-2, gR, fun P hp => ?_, fun P hp => ?_⟩
    · simp [vc_X10_room, vc_hasModule_iff c12, h1, q1, q2, e6]
      exact ⟨fun q => absurd q h3, fun _ => hp _ h⟩
    · simp [vr_room, vr_isModule_iff hM r1, vr_isRoom, vr_in_iff, h1, h2, jj_nb1]
      refine vr_waitingNow_of hl ?_
      exact ⟨fun q => absurd q h3, fun _ => hp⟩
theorem op_tell {B : Nat} {gC : cm_M} {gR : jm_M} (h : b_R B gC gR) (a b c : Int32) : ∃ (r : Int32) (gR' : jm_M), (∀ P : Int32 → cm_M → Prop, (∀ g, b_R B g gR' → P r g) → vc_X10_tell a b c gC P) ∧ (∀ P : Int32 → jm_M → Prop, P r gR' → vr_tell a b c gR P) := by
  obtain ⟨M, T, N, hT, hX, ht, hH, hW, ⟨p1, p2, p3, p4, p5, p6⟩, hA, hI⟩ := id h
  obtain ⟨hM, hT16, hN, c12, r1, c13, r3, c14, r5, -⟩ := id hT
  have e2 : c ≤ 2 ↔ ¬ 2 < c := Int32.not_lt.symm
  rcases ix_cases a (n := M) (by omega) with h1 | ⟨i, hi, rfl, h1⟩
  · refine ⟨-1, gR, fun P hp => ?_, fun P hp => ?_⟩
    · simp [vc_X10_tell, vc_hasModule_iff c12, h1, hp _ h]
    · simp [vr_tell, vr_isModule_iff hM r1, h1, hp]
  rcases ix_cases b (n := M) (by omega) with h2 | ⟨j, hj, rfl, h2⟩
  · refine ⟨-1, gR, fun P hp => ?_, fun P hp => ?_⟩
    · simp [vc_X10_tell, vc_hasModule_iff c12, h1, h2, hp _ h]
    · simp [vr_tell, vr_isModule_iff hM r1, h1, h2, hp]
  by_cases h3 : nI i = nI j
  · refine ⟨-1, gR, fun P hp => ?_, fun P hp => ?_⟩
    · simp [vc_X10_tell, vc_hasModule_iff c12, h2, h3, hp _ h]
    · simp [vr_tell, vr_isModule_iff hM r1, h2, h3, hp]
  by_cases h4 : c < 0 ∨ 2 < c
  · refine ⟨-1, gR, fun P hp => ?_, fun P hp => ?_⟩
    · rcases h4 with h4 | h4
      · simp [vc_X10_tell, vc_hasModule_iff c12, h1, h2, h3, h4, hp _ h]
      · simp [vc_X10_tell, vc_hasModule_iff c12, h1, h2, h3, Int32.not_le.mpr h4, hp _ h]
    · simp [vr_tell, vr_isModule_iff hM r1, vr_in_iff, h1, h2, h3, h4, hp]
  obtain ⟨q1, q2⟩ := not_or.mp h4
  obtain ⟨z, hz, rfl⟩ : ∃ i : Nat, i < 3 ∧ c = nI i := ni_le (n := 3) (by omega) q1 (fun q => q2 ((i_lt_le c 2 3 (by decide)).mp q))
  have hij : i ≠ j := fun e => h3 (by rw [e])
  have y1 : nI i * 10 + nI j = nI (10 * i + j) := ij' (k := 10) (by omega)
  have y2 : nI j * 10 + nI i = nI (10 * j + i) := ij' (k := 10) (by omega)
  have y3 : (10 : Int32) * nI i + nI j = nI (10 * i + j) := ij (k := 10) (by omega)
  have y4 : (10 : Int32) * nI j + nI i = nI (10 * j + i) := ij (k := 10) (by omega)
  have i1 : vp_in (nI (10 * i + j)) 100 := vp_in_nI (by omega) (by omega)
  have i2 : vp_in (nI (10 * j + i)) 100 := vp_in_nI (by omega) (by omega)
  have t1 : (nI (10 * i + j)).toNatClampNeg = 10 * i + j := tn_nI (by omega)
  have t2 : (nI (10 * j + i)).toNatClampNeg = 10 * j + i := tn_nI (by omega)
  refine ⟨gR 32 (10 * i + j), jm_a (jm_a gR 32 (nI (10 * i + j)) (nI z)) 32 (nI (10 * j + i)) (nI z), fun P hp => ?_, fun P hp => ?_⟩
  · simp [vc_X10_tell, vc_hasModule_iff c12, h1, h2, h3, q1, q2, e2, y1, y2, i1, i2, t1, p3]
    refine hp _ ⟨M, T, N, hT, hX, ht, hH, hW, ⟨p1, p2, ?_, ?_, ?_, p6⟩, hA, hI⟩
    · show upd (upd (gC.2.2 3) (nI (10 * i + j)).toNatClampNeg (nI z)) (nI (10 * j + i)).toNatClampNeg (nI z) = upd (upd (gR 32) (nI (10 * i + j)).toNatClampNeg (nI z)) (nI (10 * j + i)).toNatClampNeg (nI z)
      rw [p3]
    · intro u v hu hv
      show upd (upd (gR 32) (nI (10 * i + j)).toNatClampNeg (nI z)) (nI (10 * j + i)).toNatClampNeg (nI z) (10 * u + v) = upd (upd (gR 32) (nI (10 * i + j)).toNatClampNeg (nI z)) (nI (10 * j + i)).toNatClampNeg (nI z) (10 * v + u)
      rw [t1, t2]
      by_cases e1 : u = i ∧ v = j
      · obtain ⟨rfl, rfl⟩ := e1
        rw [pk_us, pk_un (by omega), pk_us]
      · by_cases e2 : u = j ∧ v = i
        · obtain ⟨rfl, rfl⟩ := e2
          rw [pk_us, pk_un (by omega), pk_us]
        · rw [pk_un (by omega), pk_un (by omega), pk_un (by omega), pk_un (by omega)]; exact p4 u v hu hv
    · intro u hu
      show upd (upd (gR 32) (nI (10 * i + j)).toNatClampNeg (nI z)) (nI (10 * j + i)).toNatClampNeg (nI z) u = 0 ∨ upd (upd (gR 32) (nI (10 * i + j)).toNatClampNeg (nI z)) (nI (10 * j + i)).toNatClampNeg (nI z) u = 1 ∨ upd (upd (gR 32) (nI (10 * i + j)).toNatClampNeg (nI z)) (nI (10 * j + i)).toNatClampNeg (nI z) u = 2
      rw [t1, t2]
      have hz3 : nI z = 0 ∨ nI z = 1 ∨ nI z = 2 := by
        have : z = 0 ∨ z = 1 ∨ z = 2 := by omega
        rcases this with rfl | rfl | rfl
        · exact Or.inl rfl
        · exact Or.inr (Or.inl rfl)
        · exact Or.inr (Or.inr rfl)
      by_cases e1 : u = 10 * j + i
      · subst e1; rw [pk_us]; exact hz3
      · rw [pk_un e1]
        by_cases e2 : u = 10 * i + j
        · subst e2; rw [pk_us]; exact hz3
        · rw [pk_un e2]; exact p5 u hu
  · simp [vr_tell, vr_isModule_iff hM r1, vr_in_iff, h1, h2, h3, h4, y3, y4, i1, i2, t1, hp]
theorem op_term {B : Nat} {gC : cm_M} {gR : jm_M} (h : b_R B gC gR) (a b c d : Int32) : ∃ (r : Int32) (gR' : jm_M), (∀ P : Int32 → cm_M → Prop, (∀ g, b_R B g gR' → P r g) → vc_X10_term a b c d gC P) ∧ (∀ P : Int32 → jm_M → Prop, P r gR' → vr_term a b c d gR P) := by
  obtain ⟨M, T, N, hT, hX, ht, hH, hW, hP, hA, hI⟩ := id h
  obtain ⟨hM, hT16, hN, c12, r1, c13, r3, c14, r5, -⟩ := id hT
  obtain ⟨K, w1, w2, w3, w4, w5, w6, w7, w8⟩ := id hW
  have e9 : d ≤ 9 ↔ ¬ 9 < d := Int32.not_lt.symm
  rcases ix_cases a (n := K) (by omega) with h1 | ⟨i, hi, rfl, h1⟩
  · refine ⟨-1, gR, fun P hp => ?_, fun P hp => ?_⟩
    · simp [vc_X10_term, vc_has_iff w2, h1, hp _ h]
    · simp [vr_term, vr_isLaw_iff w1 w3, h1, hp]
  rcases ix_cases b (n := T) (by omega) with h2 | ⟨t, ht', rfl, h2⟩
  · refine ⟨-1, gR, fun P hp => ?_, fun P hp => ?_⟩
    · simp [vc_X10_term, vc_has_iff w2, vc_hasCell_iff c13, h1, h2, hp _ h]
    · simp [vr_term, vr_isLaw_iff w1 w3, vr_isTable_iff hT16 r3, h1, h2, hp]
  by_cases h3 : c < 0 ∨ 7 < c
  · refine ⟨-1, gR, fun P hp => ?_, fun P hp => ?_⟩
    · simp [vc_X10_term, vc_has_iff w2, vc_hasCell_iff c13, h1, h3, hp _ h]
    · simp [vr_term, vr_isLaw_iff w1 w3, vr_isTable_iff hT16 r3, vr_in_iff, h1, h2, h3, hp]
  by_cases h4 : d < -9 ∨ 9 < d
  · refine ⟨-1, gR, fun P hp => ?_, fun P hp => ?_⟩
    · rcases h4 with h4 | h4
      · simp [vc_X10_term, vc_has_iff w2, vc_hasCell_iff c13, h1, h2, h3, h4, hp _ h]
      · simp [vc_X10_term, vc_has_iff w2, vc_hasCell_iff c13, h1, h2, h3, Int32.not_le.mpr h4, hp _ h]
    · simp [vr_term, vr_isLaw_iff w1 w3, vr_isTable_iff hT16 r3, vr_in_iff, h1, h2, h3, h4, hp]
  obtain ⟨q1, q2⟩ := not_or.mp h4
  obtain ⟨k, hk8, rfl⟩ : ∃ i : Nat, i < 8 ∧ c = nI i := ni_le (n := 8) (by omega) (fun q => h3 (Or.inl q)) (fun q => h3 (Or.inr ((i_lt_le c 7 8 (by decide)).mp q)))
  obtain ⟨z, hz, ez, hlz⟩ := w8 i (by omega)
  have cz : gC.2.2 55 i = nI z := by rw [w5, ez]
  have t1 : (nI i).toNatClampNeg = i := tn_nI (by omega)
  have i1 : vp_in (nI i) 10 := vp_in_nI (by omega) (by omega)
  have el : nI z < 6 ↔ z < 6 := nI_ltI (b := 6) (by omega) (by omega)
  have ee : nI z = 6 ↔ z = 6 := nI_eq (b := 6) (by omega) (by omega)
  by_cases h5 : z = 6
  · refine ⟨-3, gR, fun P hp => ?_, fun P hp => ?_⟩
    · have : ¬ z < 6 := by omega
      simp [vc_X10_term, vc_has_iff w2, vc_hasCell_iff c13, h1, h2, h3, q1, q2, e9, i1, t1, cz]
      exact ⟨fun q => absurd (el.mp q) this, fun _ => hp _ h⟩
    · simp [vr_term, vr_isLaw_iff w1 w3, vr_isTable_iff hT16 r3, vr_in_iff, h1, h2, h3, h4, i1, t1, ez, ee.mpr h5, hp]
  have hz' : z < 6 := by omega
  have y1 : nI i * 6 + nI z = nI (6 * i + z) := ij' (k := 6) (by omega)
  have y2 : (6 : Int32) * nI i + nI z = nI (6 * i + z) := ij (k := 6) (by omega)
  have y3 : nI t * 8 + nI k = nI (8 * t + k) := ij' (k := 8) (by omega)
  have y4 : (8 : Int32) * nI t + nI k = nI (8 * t + k) := ij (k := 8) (by omega)
  have i2 : vp_in (nI (6 * i + z)) 60 := vp_in_nI (by omega) (by omega)
  have t2 : (nI (6 * i + z)).toNatClampNeg = 6 * i + z := tn_nI (by omega)
  refine ⟨nI (z + 1), jm_a (jm_a (jm_a gR 49 (nI (6 * i + z)) (nI (8 * t + k))) 50 (nI (6 * i + z)) d) 48 (nI i) (nI (z + 1)), fun P hp => ?_, fun P hp => ?_⟩
  · have pf : vc_X5_addTerm (nI i) (nI t * 8 + nI k) d gC (fun r8 g9 => P r8 g9) := by
      unfold vc_X5_addTerm
      rw [t1, cz, y1, y3]
      refine ⟨i1, nm_e ⟨i2, nm_e ⟨i2, nm_e ⟨i1, i1, ?_⟩⟩⟩⟩
      have u1 : (cm_a (cm_a gC 57 (nI (6 * i + z)) (nI (8 * t + k))) 58 (nI (6 * i + z)) d).2.2 55 i = nI z := cz
      rw [u1, nI_1]
      refine nm_e ⟨i1, ?_⟩
      have u2 : (cm_a (cm_a (cm_a gC 57 (nI (6 * i + z)) (nI (8 * t + k))) 58 (nI (6 * i + z)) d) 55 (nI i) (nI (z + 1))).2.2 55 i = nI (z + 1) := by
        show upd (gC.2.2 55) (nI i).toNatClampNeg (nI (z + 1)) i = _
        rw [t1, pk_us]
      rw [u2]
      refine hp _ ⟨M, T, N, hT, hX, ht, hH, ⟨K, w1, w2, w3, w4, ?_, ?_, ?_, ?_⟩, hP, hA, hI⟩
      · show upd (gC.2.2 55) (nI i).toNatClampNeg (nI (z + 1)) = upd (gR 48) (nI i).toNatClampNeg (nI (z + 1))
        rw [w5]
      · show upd (gC.2.2 57) (nI (6 * i + z)).toNatClampNeg (nI (8 * t + k)) = upd (gR 49) (nI (6 * i + z)).toNatClampNeg (nI (8 * t + k))
        rw [w6]
      · show upd (gC.2.2 58) (nI (6 * i + z)).toNatClampNeg d = upd (gR 50) (nI (6 * i + z)).toNatClampNeg d
        rw [w7]
      · intro j hj
        show ∃ z2 : Nat, z2 ≤ 6 ∧ upd (gR 48) (nI i).toNatClampNeg (nI (z + 1)) j = nI z2 ∧ ∀ j2, j2 < z2 → ∃ k2 : Nat, k2 < 8 * T ∧ upd (gR 49) (nI (6 * i + z)).toNatClampNeg (nI (8 * t + k)) (6 * j + j2) = nI k2
        rw [t1, t2]
        by_cases e : j = i
        · subst e
          refine ⟨z + 1, by omega, pk_us, fun j2 hj2 => ?_⟩
          by_cases e2 : j2 = z
          · subst e2; exact ⟨8 * t + k, by omega, pk_us⟩
          · rw [pk_un (by omega)]; exact hlz j2 (by omega)
        · rw [pk_un e]
          obtain ⟨z2, hz2, ez2, hl2⟩ := w8 j hj
          refine ⟨z2, hz2, ez2, fun j2 hj2 => ?_⟩
          rw [pk_un (by omega)]; exact hl2 j2 hj2
    unfold vc_X10_term
    simp only [vc_has_iff w2, vc_hasCell_iff c13, h1, h2, h3, or_self, if_false, t1, cz]
    exact ⟨fun q => absurd q (by decide), fun _ => ⟨fun q => absurd q (by decide), fun _ => ⟨fun q => absurd q q1, fun _ => ⟨fun _ => ⟨i1, fun _ => pf, fun q => absurd (el.mpr hz') q⟩, fun q => absurd (e9.mpr q2) q⟩⟩⟩⟩
  · have u1 : jm_a gR 49 (nI (6 * i + z)) (nI (8 * t + k)) 48 i = nI z := ez
    have u2 : jm_a (jm_a gR 49 (nI (6 * i + z)) (nI (8 * t + k))) 50 (nI (6 * i + z)) d 48 i = nI z := ez
    have u3 : jm_a (jm_a (jm_a gR 49 (nI (6 * i + z)) (nI (8 * t + k))) 50 (nI (6 * i + z)) d) 48 (nI i) (nI (z + 1)) 48 i = nI (z + 1) := by
      show upd (gR 48) (nI i).toNatClampNeg (nI (z + 1)) i = _
      rw [t1, pk_us]
    unfold vr_term
    simp only [vr_isLaw_iff w1 w3, vr_isTable_iff hT16 r3, vr_in_iff, h1, h2, h3, h4, if_false, t1, ez, y2, y4]
    refine ⟨fun q => absurd q (by decide), fun _ => ⟨fun q => absurd q (by decide), fun _ => ⟨fun q => absurd q (by decide), fun _ => ⟨fun _ => ⟨i1, fun _ => ⟨i1, i2, nm_e ⟨i1, ?_⟩⟩, fun q => absurd (ee.mp q) h5⟩, fun q => absurd q (by decide)⟩⟩⟩⟩
    rw [u1, y2]
    refine ⟨i2, nm_e ⟨i1, i1, ?_⟩⟩
    rw [u2, nI_1]
    refine nm_e ⟨i1, ?_⟩
    rw [u3]; exact hp
