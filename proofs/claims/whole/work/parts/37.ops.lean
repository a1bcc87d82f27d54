theorem nb_f {k n : Nat} (h : k ≠ n) : Nat.beq k n = false := by
  cases hb : Nat.beq k n
  · rfl
  · exact absurd (Nat.eq_of_beq_eq_true hb) h
theorem jm_un (g : jm_M) {k j : Nat} (f : Nat → Int32) (h : j ≠ k) : jm_u g k f j = g j := by
  show (bif Nat.beq j k then f else g j) = g j
  rw [nb_f h]; rfl
set_option maxRecDepth 8000 in
theorem op_line {B : Nat} {gC : cm_M} {gR : jm_M} (h : b_R B gC gR) (a o x y : Int32) : ∃ (r : Int32) (gR' : jm_M), (∀ P : Int32 → cm_M → Prop, (∀ g, b_R B g gR' → P r g) → vc_X10_line a o x y gC P) ∧ (∀ P : Int32 → jm_M → Prop, P r gR' → vr_line a o x y gR P) := by
  obtain ⟨M, T, N, hT, hX, ht, hH, hW, hP, hA, hI⟩ := id h
  obtain ⟨hM, hT16, hN, c12, r1, c13, r3, c14, r5, e4, e5, e6, e7, e8, e9, e10⟩ := id hT
  rcases ix_cases a (n := N) (by omega) with h1 | ⟨i, hi, rfl, h1⟩
  · refine ⟨-1, gR, fun P hp => ?_, fun P hp => ?_⟩
    · simp [vc_X10_line, vc_hasRoutine_iff c14, h1, hp _ h]
    · simp [vr_line, vr_isRoutine_iff hN r5, h1, hp]
  rcases isLine_iff hT16 hN c13 r3 c14 r5 o x y with ⟨q1, q2⟩ | ⟨hl, q1, q2⟩
  · refine ⟨-1, gR, fun P hp => ?_, fun P hp => ?_⟩
    · simp [vc_X10_line, vc_hasRoutine_iff c14, h1]; exact q1 _ (by simp [hp _ h])
    · simp [vr_line, vr_isRoutine_iff hN r5, h1]; exact q2 _ (by simp [hp])
  obtain ⟨x1, x2, x3, x4, x5⟩ := id hX
  obtain ⟨z, hz, ez, hlz⟩ := x4 i hi
  have t1 : (nI i).toNatClampNeg = i := tn_nI (by omega)
  have i1 : vp_in (nI i) 40 := vp_in_nI (by omega) (by omega)
  have cz : gC.2.2 7 i = nI z := by rw [e7, ez]
  by_cases hz16 : z = 16
  · subst hz16
    refine ⟨-3, gR, fun P hp => ?_, fun P hp => ?_⟩
    · simp [vc_X10_line, vc_hasRoutine_iff c14, h1]
      refine q1 _ ?_
      have : ¬ nI 16 < 16 := by decide
      simp [t1, i1, cz, this, hp _ h]
    · simp [vr_line, vr_isRoutine_iff hN r5, h1]
      refine q2 _ ?_
      have : nI 16 = 16 := by decide
      simp [t1, i1, ez, this, hp]
  have hz' : z < 16 := by omega
  have y1 : nI i * 16 + nI z = nI (16 * i + z) := ij' (k := 16) (by omega)
  have y2 : (16 : Int32) * nI i + nI z = nI (16 * i + z) := ij (k := 16) (by omega)
  have i2 : vp_in (nI (16 * i + z)) 640 := vp_in_nI (by omega) (by omega)
  have t2 : (nI (16 * i + z)).toNatClampNeg = 16 * i + z := tn_nI (by omega)
  obtain ⟨gR', hgR'⟩ : ∃ g, g = jm_a (jm_a (jm_a (jm_a gR 8 (nI (16 * i + z)) o) 9 (nI (16 * i + z)) x) 10 (nI (16 * i + z)) y) 7 (nI i) (nI (z + 1)) := ⟨_, rfl⟩
  refine ⟨nI z, gR', fun P hp => ?_, fun P hp => ?_⟩
  · unfold vc_X10_line
    rw [vc_hasRoutine_iff c14, if_neg h1]
    refine ⟨fun q => absurd q (by decide), fun _ => q1 _ ⟨fun _ => ⟨i1, fun _ => ?_, fun q => absurd ?_ q⟩, fun q => absurd q (by decide)⟩⟩
    · unfold vc_X9_addLine
      rw [t1, cz]
      refine ⟨i1, nm_e ?_⟩
      rw [y1]
      refine nm_e ⟨i2, nm_e ⟨i2, nm_e ⟨i2, nm_e ⟨i1, nm_e ?_⟩⟩⟩⟩
      rw [nI_1]
      obtain ⟨g6, hg6⟩ : ∃ g, g = cm_a (cm_a (cm_a (cm_a gC 8 (nI (16 * i + z)) o) 9 (nI (16 * i + z)) x) 10 (nI (16 * i + z)) y) 7 (nI i) (nI (z + 1)) := ⟨_, rfl⟩
      rw [← hg6]
      have f8 : g6.2.2 8 = upd (gR 8) (16 * i + z) o := by rw [hg6]; show upd (gC.2.2 8) (nI (16 * i + z)).toNatClampNeg o = _; rw [t2, e8]
      have f9 : g6.2.2 9 = upd (gR 9) (16 * i + z) x := by rw [hg6]; show upd (gC.2.2 9) (nI (16 * i + z)).toNatClampNeg x = _; rw [t2, e9]
      have f10 : g6.2.2 10 = upd (gR 10) (16 * i + z) y := by rw [hg6]; show upd (gC.2.2 10) (nI (16 * i + z)).toNatClampNeg y = _; rw [t2, e10]
      have f7 : g6.2.2 7 = upd (gR 7) i (nI (z + 1)) := by rw [hg6]; show upd (gC.2.2 7) (nI i).toNatClampNeg (nI (z + 1)) = _; rw [t1, e7]
      have f6 : g6.2.2 6 = gR 6 := by rw [hg6]; exact e6
      have f11 : g6.2.2 11 = gC.2.2 11 := by rw [hg6]; rfl
      have s8 : gR' 8 = upd (gR 8) (16 * i + z) o := by rw [hgR']; show upd (gR 8) (nI (16 * i + z)).toNatClampNeg o = _; rw [t2]
      have s9 : gR' 9 = upd (gR 9) (16 * i + z) x := by rw [hgR']; show upd (gR 9) (nI (16 * i + z)).toNatClampNeg x = _; rw [t2]
      have s10 : gR' 10 = upd (gR 10) (16 * i + z) y := by rw [hgR']; show upd (gR 10) (nI (16 * i + z)).toNatClampNeg y = _; rw [t2]
      have s7 : gR' 7 = upd (gR 7) i (nI (z + 1)) := by rw [hgR']; show upd (gR 7) (nI i).toNatClampNeg (nI (z + 1)) = _; rw [t1]
      have s6 : gR' 6 = gR 6 := by rw [hgR']; rfl
      have hw : ∀ j, j < N → ∃ h : Nat, h < 10 ∧ g6.2.2 6 j = nI h := fun j hj => by
        obtain ⟨h2, hh, eh⟩ := x3 j hj
        exact ⟨h2, by omega, by rw [f6]; exact eh⟩
      have key : ∀ p, b_cnt (gR' 6) (gR' 7) (gR' 8) (gR' 9) p N = b_cnt (gR 6) (gR 7) (gR 8) (gR 9) p N + (if b_tie o (gR 6 i).toNatClampNeg x.toNatClampNeg (gR 6 x.toNatClampNeg).toNatClampNeg = some p then 1 else 0) := by
        intro p
        have mv := b_cnt_move (w := gR 6) (z := gR 7) (o := gR 8) (x := gR 9) (w2 := gR' 6) (z2 := gR' 7) (o2 := gR' 8) (x2 := gR' 9) (p := p) (i := i) N (fun j hj hn => by
          obtain ⟨z2, hz2, ez2, -⟩ := x4 j hj
          rw [s7, pk_un hn, ez2, tn_nI (by omega)]
          exact b_cnt1_ext z2 (fun k hk => by rw [s8, pk_un (by omega)]) (fun k hk => by rw [s9, pk_un (by omega)]) (fun k => by rw [s6])) rfl rfl
        rw [if_pos hi, if_pos hi] at mv
        have ex1 : b_cnt1 (gR' 6) (gR' 8) (gR' 9) i p z = b_cnt1 (gR 6) (gR 8) (gR 9) i p z := b_cnt1_ext z (fun k hk => by rw [s8, pk_un (by omega)]) (fun k hk => by rw [s9, pk_un (by omega)]) (fun k => by rw [s6])
        rw [s7, pk_us, tn_nI (by omega), ez, tn_nI (by omega), b_cnt1, ex1, s8, s9, pk_us, pk_us, s6] at mv
        rw [s7, s8, s9, s6]
        omega
      have rel : ∀ g : cm_M, g.1 = g6.1 → (∀ k, k ≠ 11 → g.2.2 k = g6.2.2 k) → (∀ p, p < 420 → g.2.2 11 p = nI (b_cnt (gR' 6) (gR' 7) (gR' 8) (gR' 9) p N)) → b_R B g gR' := by
        intro g hg1 hgk hg11
        obtain ⟨gd, gj, gi⟩ := g
        obtain ⟨u, hu⟩ : ∃ u, u = gi 11 := ⟨_, rfl⟩
        have hgi : gi = jm_u g6.2.2 11 u := by
          funext k
          show gi k = bif Nat.beq k 11 then u else g6.2.2 k
          by_cases q : k = 11
          · subst q; exact hu.symm
          · rw [show Nat.beq k 11 = false from nb_f q]; exact hgk k q
        have hgd : gd = g6.1 := hg1
        have b1 : gi 8 = upd (gR 8) (16 * i + z) o := by rw [← f8]; exact hgk 8 (by decide)
        have b2 : gi 9 = upd (gR 9) (16 * i + z) x := by rw [← f9]; exact hgk 9 (by decide)
        have b3 : gi 10 = upd (gR 10) (16 * i + z) y := by rw [← f10]; exact hgk 10 (by decide)
        have b4 : gi 7 = upd (gR 7) i (nI (z + 1)) := by rw [← f7]; exact hgk 7 (by decide)
        have b5 : gi 6 = gR 6 := by rw [← f6]; exact hgk 6 (by decide)
        refine ⟨M, T, N, ⟨hM, hT16, hN, ?_, ?_, ?_, ?_, ?_, ?_, ?_, ?_, ?_, ?_, ?_, ?_, ?_⟩, ?_, hg11, ?_, ?_, ?_, ?_, ?_⟩
        · show gi 12 0 = _; rw [hgi, hg6]; exact c12
        · rw [hgR']; exact r1
        · show gi 13 0 = _; rw [hgi, hg6]; exact c13
        · rw [hgR']; exact r3
        · show gi 14 0 = _; rw [hgi, hg6]; exact c14
        · rw [hgR']; exact r5
        · show gi 4 = _; rw [hgi, hg6, hgR']; exact e4
        · show gi 5 = _; rw [hgi, hg6, hgR']; exact e5
        · show gi 6 = _; rw [b5, s6]
        · show gi 7 = _; rw [b4, s7]
        · show gi 8 = _; rw [b1, s8]
        · show gi 9 = _; rw [b2, s9]
        · show gi 10 = _; rw [b3, s10]
        · refine ⟨?_, ?_, ?_, ?_, ?_⟩
          · rw [hgR']; exact x1
          · rw [hgR']; exact x2
          · rw [hgR']; exact x3
          · intro j hj
            by_cases q : j = i
            · subst q
              refine ⟨z + 1, by omega, by rw [s7, pk_us], fun k hk => ?_⟩
              rw [s8, s9, s10]
              by_cases qk : k = z
              · subst qk; rw [pk_us, pk_us, pk_us]; exact hl
              · rw [pk_un (by omega), pk_un (by omega), pk_un (by omega)]; exact hlz k (by omega)
            · obtain ⟨z2, hz2, ez2, hl2⟩ := x4 j hj
              refine ⟨z2, hz2, by rw [s7, pk_un q, ez2], fun k hk => ?_⟩
              rw [s8, s9, s10, pk_un (by omega), pk_un (by omega), pk_un (by omega)]; exact hl2 k hk
          · intro j hj hj2
            rw [s7, pk_un (by omega)]; exact x5 j hj hj2
        · show b_H B T gd.2.1 gi gR'; rw [hgi, hgd, hg6, hgR']; exact hH
        · show b_W T gi gR'; rw [hgi, hg6, hgR']; exact hW
        · show b_P M gi gR'; rw [hgi, hg6, hgR']; exact hP
        · show b_A gi; rw [hgi, hg6]; exact hA
        · show b_I B gd gi gR'; rw [hgi, hgd, hg6, hgR']; exact hI
      refine tie_of hT16 hN hw hi hz' (by rw [f8, f9, f10, pk_us, pk_us, pk_us]; exact hl) _ ?_
      rw [f8, f9, pk_us, pk_us, f6]
      obtain ⟨tie, htie⟩ : ∃ t, t = b_tie o (gR 6 i).toNatClampNeg x.toNatClampNeg (gR 6 x.toNatClampNeg).toNatClampNeg := ⟨_, rfl⟩
      rw [← htie]
      rw [← htie] at key
      cases tie with
      | none =>
        refine ⟨fun _ => hp _ (rel g6 rfl (fun _ _ => rfl) (fun p hp' => ?_)), fun q => absurd rfl q⟩
        rw [key p, f11, ht p hp']; simp
      | some k =>
        have hk : k < 420 := by
          obtain ⟨h2, hh, eh⟩ := x3 i hi
          rcases hl with q | q | ⟨q, t, k2, q1, q2, q3, q4⟩ | ⟨q, k2, q1, q2⟩ | ⟨q, -⟩ | q
          · unfold b_tie at htie; simp [q] at htie
          · unfold b_tie at htie; simp [q] at htie
          · unfold b_tie at htie
            rw [eh, tn_nI (by omega), q3, tn_nI (by omega)] at htie
            rcases q with q | q | q | q <;> simp [q] at htie <;> omega
          · obtain ⟨h3, hh3, eh3⟩ := x3 k2 q1
            unfold b_tie at htie
            rw [eh, tn_nI (by omega), q2, tn_nI (by omega), eh3, tn_nI (by omega)] at htie
            simp [q] at htie; omega
          · unfold b_tie at htie; simp [q] at htie
          · unfold b_tie at htie; simp [q] at htie
        have i3 : vp_in (nI k) 420 := vp_in_nI hk (by omega)
        have t3 : (nI k).toNatClampNeg = k := tn_nI (by omega)
        have n1 : nI k ≠ -1 := fun q => by
          have q2 : (nI k).toInt = (-1 : Int32).toInt := by rw [q]
          rw [nI_toInt (by omega)] at q2
          have : (-1 : Int32).toInt = -1 := by decide
          omega
        refine ⟨fun q => absurd q n1, fun _ => ⟨i3, i3, nm_e (hp _ (rel _ rfl (fun k2 hk2 => ?_) (fun p hp' => ?_)))⟩⟩
        · show jm_u g6.2.2 11 _ k2 = _
          show (bif Nat.beq k2 11 then _ else g6.2.2 k2) = _
          rw [show Nat.beq k2 11 = false from nb_f hk2]; rfl
        · show upd (g6.2.2 11) (nI k).toNatClampNeg ((g6.2.2 11 (nI k).toNatClampNeg) + 1) p = _
          rw [t3, f11, key p]
          by_cases qp : p = k
          · subst qp; rw [pk_us, ht p hp', nI_1]; simp
          · rw [pk_un qp, ht p hp', if_neg (fun q => qp (by injection q with q; exact q.symm))]; rfl
    · rw [t1, cz]; exact nI_lt (b := 16) hz' (by omega)
  · simp [vr_line, vr_isRoutine_iff hN r5, h1]
    refine q2 _ ⟨fun _ => ⟨i1, fun _ => ⟨i1, ?_⟩, fun q => absurd ?_ hz16⟩, fun q => absurd q (by decide)⟩
    · rw [t1, ez, y2]
      have u1 : (jm_a (jm_a (jm_a gR 8 (nI (16 * i + z)) o) 9 (nI (16 * i + z)) x) 10 (nI (16 * i + z)) y) 7 i = nI z := ez
      refine ⟨i2, i1, ?_⟩
      rw [u1, nI_1, ← hgR']
      have u2 : gR' 7 i = nI (z + 1) := by rw [hgR']; show upd (gR 7) (nI i).toNatClampNeg (nI (z + 1)) i = _; rw [t1, pk_us]
      rw [u2, nI_pred]; exact hp
    · rw [t1, ez] at q
      exact (nI_eq (b := 16) (by omega) (by omega)).mp q
