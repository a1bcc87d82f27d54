theorem il_of {w : Nat → Int32} {r G : jm_M} {A0 S : Nat} {f0 : Nat → Int32} (hA : A0 + 13400 ≤ 53600) (hS : S ≤ 2000) (e40 : G 40 0 = nI S) (e41 : ∀ l, l < S → G 41 l = r 41 l ∧ G 42 l = r 42 l ∧ G 43 l = r 43 l ∧ G 44 l = r 44 l ∧ G 45 l = r 45 l) (h45 : ∀ l, l < S → r 45 l = 0 ∨ r 45 l = 1) (Post : Int32 → jm_M → Prop) (hP : ∀ f', b_iv A0 (b_tg r) f0 f' (1722 + 5 * S) → Post 1 (b_at w (jm_u G 61 f') (A0 + (1722 + 5 * S)))) : ∀ d l f, l + d = S → b_iv A0 (b_tg r) f0 f (1722 + 5 * l) → vr_image_289 Post (d + 1) (nI l) (b_at w (jm_u G 61 f) (A0 + (1722 + 5 * l)))
  | 0, l, f, hl, hf => by
    obtain rfl : l = S := by omega
    unfold vr_image_289
    rw [at_row _ _ _ (by decide), jm_un _ _ (by decide), e40]
    exact ⟨fun _ => hP f hf, fun q => absurd (nI_le (Nat.le_refl _) (by omega)) q⟩
  | d + 1, l, f, hl, hf => by
    have hlS : l < S := by omega
    obtain ⟨t1, t2, t3, t4, t5⟩ := tg_l r l
    obtain ⟨g1, g2, g3, g4, g5⟩ := e41 l hlS
    have tl : (nI l).toNatClampNeg = l := tn_nI (by omega)
    have il : vp_in (nI l) 2000 := vp_in_nI (by omega) (by omega)
    unfold vr_image_289
    rw [at_row _ _ _ (by decide), jm_un _ _ (by decide), e40]
    refine ⟨fun q => absurd q (nI_ge (by omega) (by omega)), fun _ => ⟨il, ?_⟩⟩
    rw [tl]
    refine kk_of hA (by omega) hf (by rw [at_row _ _ _ (by decide), jm_un _ _ (by decide), g1, t1]) _ (fun f1 h1 => ⟨il, ?_⟩)
    refine kk_of hA (by omega) h1 (by rw [at_row _ _ _ (by decide), jm_un _ _ (by decide), g2, show 1722 + 5 * l + 1 = 1723 + 5 * l by omega, t2]) _ (fun f2 h2 => ⟨il, ?_⟩)
    refine kk_of hA (by omega) h2 (by rw [at_row _ _ _ (by decide), jm_un _ _ (by decide), g3, show 1722 + 5 * l + 1 + 1 = 1724 + 5 * l by omega, t3]) _ (fun f3 h3 => ⟨il, ?_⟩)
    refine kk_of hA (by omega) h3 (by rw [at_row _ _ _ (by decide), jm_un _ _ (by decide), g4, show 1722 + 5 * l + 1 + 1 + 1 = 1725 + 5 * l by omega, t4]) _ (fun f4 h4 => ⟨il, ?_⟩)
    have e45 : b_at w (jm_u G 61 f4) (A0 + (1722 + 5 * l + 1 + 1 + 1 + 1)) 45 l = r 45 l := by rw [at_row _ _ _ (by decide), jm_un _ _ (by decide), g5]
    rw [e45]
    have nx : 1722 + 5 * l + 1 + 1 + 1 + 1 + 1 = 1722 + 5 * (l + 1) := by omega
    have fin : ∀ f5, b_iv A0 (b_tg r) f0 f5 (1722 + 5 * l + 1 + 1 + 1 + 1 + 1) → vr_image_289 Post (d + 1) (nI l + 1) (b_at w (jm_u G 61 f5) (A0 + (1722 + 5 * l + 1 + 1 + 1 + 1 + 1))) := fun f5 h5 => by
      rw [nx] at h5 ⊢
      rw [nI_1]
      exact il_of hA hS e40 e41 h45 Post hP d (l + 1) f5 (by omega) h5
    refine ⟨fun q => ?_, fun q => ?_⟩
    · exact kk_of hA (by omega) h4 (by rw [show 1722 + 5 * l + 1 + 1 + 1 + 1 = 1726 + 5 * l by omega, t5, q]) _ fin
    · exact kk_of hA (by omega) h4 (by rw [show 1722 + 5 * l + 1 + 1 + 1 + 1 = 1726 + 5 * l by omega, t5]; rcases h45 l hlS with q2 | q2; exact absurd q2 q; exact q2.symm) _ fin
theorem img_r {r : jm_M} {i S : Nat} (hi : i < 4) (hS : S ≤ 2000) (e40 : r 40 0 = nI S) (h58 : r 58 0 = 0 ∨ r 58 0 = 1) (h45 : ∀ l, l < S → r 45 l = 0 ∨ r 45 l = 1) (P : Int32 → jm_M → Prop) (hP : ∀ f', b_iv (13400 * i) (b_tg r) (r 61) f' (1722 + 5 * S) → P 1 (b_at (r 62) (jm_u (jm_u r 60 (upd (r 60) i 1)) 61 f') (13400 * i + (1722 + 5 * S)))) : vr_image (nI i) r P := by
  unfold vr_image
  rw [vr_in_iff, if_neg (fun q => by rcases q with q | q; exact nI_pos (by omega) q; exact nI_nlt (a := 3) (b := i) (by omega) (by omega) q)]
  obtain ⟨G, hG⟩ : ∃ G, G = jm_u r 60 (upd (r 60) i 1) := ⟨_, rfl⟩
  obtain ⟨A0, hA0⟩ : ∃ A0, A0 = 13400 * i := ⟨_, rfl⟩
  have hA : A0 + 13400 ≤ 53600 := by omega
  have e0 : jm_a (jm_s r 62 ((13400 : Int32) * nI i)) 60 (nI i) 1 = b_at (r 62) (jm_u G 61 (r 61)) (A0 + 0) := by
    rw [show (13400 : Int32) * nI i = nI (13400 * i) from pk_mul 13400 i, show jm_s r 62 (nI (13400 * i)) = b_at (r 62) r (13400 * i) from rfl, at_a _ _ _ _ (by decide) (by omega), ← hG, ← hA0]
    have : jm_u G 61 (r 61) = G := by rw [hG]; exact jm_u0 _ 61
    rw [this]; rfl
  refine ⟨fun _ => nm_e ⟨vp_in_nI hi (by omega), nm_e ?_⟩, fun q => absurd q (by decide)⟩
  rw [e0]
  rw [← hG, ← hA0] at hP
  have row : ∀ {k : Nat}, k ≠ 60 → G k = r k := fun h => by rw [hG]; exact jm_un _ _ h
  have gr : ∀ (f : Nat → Int32) (A : Nat) {k : Nat}, k ≠ 60 → k ≠ 61 → k ≠ 62 → b_at (r 62) (jm_u G 61 f) A k = r k := fun f A k h1 h2 h3 => by rw [at_row _ _ _ h3, jm_un _ _ h2, row h1]
  refine kk_of (t := b_tg r) (f0 := r 61) (off := 0) hA (by omega) ⟨fun k hk => absurd hk (Nat.not_lt_zero k), fun _ _ => rfl⟩ (by rw [gr _ _ (by decide) (by decide) (by decide)]; rfl) _ (fun f1 h1 => ?_)
  refine kk_of (off := 1) hA (by omega) h1 (by rw [gr _ _ (by decide) (by decide) (by decide)]; rfl) _ (fun f2 h2 => ⟨129, ?_⟩)
  refine klp (n := 128) (kk := 11) (off := 2) vr_image_45 (fun f x g h => by unfold vr_image_45; exact h) (by omega) hA (by decide) (by decide) (fun j hj => by rw [row (by decide)]; exact tg_11 r hj) (by omega) (fun f3 h3 => ⟨129, ?_⟩) 128 0 f2 (by omega) h2
  refine klp (n := 128) (kk := 12) (off := 130) vr_image_70 (fun f x g h => by unfold vr_image_70; exact h) (by omega) hA (by decide) (by decide) (fun j hj => by rw [row (by decide)]; exact tg_12 r hj) (by omega) (fun f4 h4 => ⟨101, ?_⟩) 128 0 f3 (by omega) h3
  refine klp (n := 100) (kk := 24) (off := 258) vr_image_95 (fun f x g h => by unfold vr_image_95; exact h) (by omega) hA (by decide) (by decide) (fun j hj => by rw [row (by decide)]; exact tg_24 r hj) (by omega) (fun f5 h5 => ⟨161, ?_⟩) 100 0 f4 (by omega) h4
  refine klp (n := 160) (kk := 25) (off := 358) vr_image_119 (fun f x g h => by unfold vr_image_119; exact h) (by omega) hA (by decide) (by decide) (fun j hj => by rw [row (by decide)]; exact tg_25 r hj) (by omega) (fun f6 h6 => ⟨161, ?_⟩) 160 0 f5 (by omega) h5
  refine klp (n := 160) (kk := 26) (off := 518) vr_image_144 (fun f x g h => by unfold vr_image_144; exact h) (by omega) hA (by decide) (by decide) (fun j hj => by rw [row (by decide)]; exact tg_26 r hj) (by omega) (fun f7 h7 => ⟨1025, ?_⟩) 160 0 f6 (by omega) h6
  refine klp (n := 1024) (kk := 27) (off := 678) vr_image_169 (fun f x g h => by unfold vr_image_169; exact h) (by omega) hA (by decide) (by decide) (fun j hj => by rw [row (by decide)]; exact tg_27 r hj) (by omega) (fun f8 h8 => ⟨11, ?_⟩) 1024 0 f7 (by omega) h7
  refine klp (n := 10) (kk := 30) (off := 1702) vr_image_194 (fun f x g h => by unfold vr_image_194; exact h) (by omega) hA (by decide) (by decide) (fun j hj => by rw [row (by decide)]; exact tg_30 r hj) (by omega) (fun f9 h9 => ⟨6, ?_⟩) 10 0 f8 (by omega) h8
  refine klp (n := 5) (kk := 59) (off := 1712) vr_image_218 (fun f x g h => by unfold vr_image_218; exact h) (by omega) hA (by decide) (by decide) (fun j hj => by rw [row (by decide)]; exact tg_59 r hj) (by omega) (fun f10 h10 => ?_) 5 0 f9 (by omega) h9
  have tail : ∀ f11, b_iv A0 (b_tg r) (r 61) f11 1718 → ∀ K : jm_M → Prop, (∀ f', b_iv A0 (b_tg r) (r 61) f' 1722 → K (b_at (r 62) (jm_u G 61 f') (A0 + 1722))) → vr_keep ((b_at (r 62) (jm_u G 61 f11) (A0 + 1718)) 57 0) (b_at (r 62) (jm_u G 61 f11) (A0 + 1718)) (fun (g45 : jm_M) => vr_keep (g45 28 0) g45 (fun (g47 : jm_M) => vr_keep (g47 29 0) g47 (fun (g49 : jm_M) => vr_keep (g49 40 0) g49 K))) := by
    intro f11 h11 K hK
    refine kk_of (off := 1718) hA (by omega) h11 (by rw [gr _ _ (by decide) (by decide) (by decide)]; rfl) _ (fun f12 h12 => ?_)
    refine kk_of (off := 1719) hA (by omega) h12 (by rw [gr _ _ (by decide) (by decide) (by decide)]; rfl) _ (fun f13 h13 => ?_)
    refine kk_of (off := 1720) hA (by omega) h13 (by rw [gr _ _ (by decide) (by decide) (by decide)]; rfl) _ (fun f14 h14 => ?_)
    exact kk_of (off := 1721) hA (by omega) h14 (by rw [gr _ _ (by decide) (by decide) (by decide)]; rfl) _ (fun f15 h15 => hK f15 h15)
  have last : ∀ f', b_iv A0 (b_tg r) (r 61) f' 1722 → ∃ n66 : Nat, vr_image_289 P n66 0 (b_at (r 62) (jm_u G 61 f') (A0 + 1722)) := fun f' hf' => ⟨S + 1, il_of (r := r) hA hS (by rw [row (by decide)]; exact e40) (fun l hl => by rw [row (by decide), row (by decide), row (by decide), row (by decide), row (by decide)]; exact ⟨rfl, rfl, rfl, rfl, rfl⟩) h45 P hP S 0 f' (by omega) hf'⟩
  rw [gr _ _ (by decide) (by decide) (by decide)]
  refine ⟨fun q => kk_of (off := 1717) hA (by omega) h10 (by rw [show b_tg r 1717 = r 58 0 from rfl, q]) _ (fun f11 h11 => tail f11 h11 _ last), fun q => kk_of (off := 1717) hA (by omega) h10 (by rw [show b_tg r 1717 = r 58 0 from rfl]; rcases h58 with q2 | q2; exact absurd q2 q; exact q2.symm) _ (fun f11 h11 => tail f11 h11 _ last)⟩
theorem iv_im {r : jm_M} {f f' : Nat → Int32} {i S : Nat} (hiv : b_iv (13400 * i) (b_tg r) f f' (1722 + 5 * S)) : im_same S (b_im f' i) r ∧ f' (13400 * i) = r 1 0 ∧ f' (13400 * i + 1) = r 3 0 := by
  have h := hiv.1
  refine ⟨⟨fun j hj => ?_, fun j hj => ?_, fun j hj => ?_, fun j hj => ?_, fun j hj => ?_, fun j hj => ?_, fun j hj => ?_, fun j hj => ?_, ?_, ?_, ?_, ?_, ?_, fun l hl => ?_⟩, h 0 (by omega), h 1 (by omega)⟩
  · show f' (13400 * i + 2 + j) = _
    rw [Nat.add_assoc, h _ (by omega)]; exact (tg_11 r hj).symm
  · show f' (13400 * i + 130 + j) = _
    rw [Nat.add_assoc, h _ (by omega)]; exact (tg_12 r hj).symm
  · show f' (13400 * i + 258 + j) = _
    rw [Nat.add_assoc, h _ (by omega)]; exact (tg_24 r hj).symm
  · show f' (13400 * i + 358 + j) = _
    rw [Nat.add_assoc, h _ (by omega)]; exact (tg_25 r hj).symm
  · show f' (13400 * i + 518 + j) = _
    rw [Nat.add_assoc, h _ (by omega)]; exact (tg_26 r hj).symm
  · show f' (13400 * i + 678 + j) = _
    rw [Nat.add_assoc, h _ (by omega)]; exact (tg_27 r hj).symm
  · show f' (13400 * i + 1702 + j) = _
    rw [Nat.add_assoc, h _ (by omega)]; exact (tg_30 r hj).symm
  · show f' (13400 * i + 1712 + j) = _
    rw [Nat.add_assoc, h _ (by omega)]; exact (tg_59 r hj).symm
  · exact h 1717 (by omega)
  · exact h 1718 (by omega)
  · exact h 1719 (by omega)
  · exact h 1720 (by omega)
  · exact h 1721 (by omega)
  · obtain ⟨t1, t2, t3, t4, t5⟩ := tg_l r l
    refine ⟨?_, ?_, ?_, ?_, ?_⟩
    · show f' (13400 * i + 1722 + 5 * l) = _
      rw [Nat.add_assoc, h _ (by omega), t1]
    · show f' (13400 * i + 1723 + 5 * l) = _
      rw [Nat.add_assoc, h _ (by omega), t2]
    · show f' (13400 * i + 1724 + 5 * l) = _
      rw [Nat.add_assoc, h _ (by omega), t3]
    · show f' (13400 * i + 1725 + 5 * l) = _
      rw [Nat.add_assoc, h _ (by omega), t4]
    · show f' (13400 * i + 1726 + 5 * l) = _
      rw [Nat.add_assoc, h _ (by omega), t5]
theorem iv_other {t f f' : Nat → Int32} {i j S off : Nat} (hij : j ≠ i) (hiv : b_iv (13400 * i) t f f' off) (hS : S ≤ 2000) : im_same S (b_im f' j) (b_im f j) ∧ f' (13400 * j) = f (13400 * j) ∧ f' (13400 * j + 1) = f (13400 * j + 1) := by
  have h : ∀ k, k < 13400 → f' (13400 * j + k) = f (13400 * j + k) := fun k hk => hiv.2 _ (by omega)
  refine ⟨⟨fun x hx => ?_, fun x hx => ?_, fun x hx => ?_, fun x hx => ?_, fun x hx => ?_, fun x hx => ?_, fun x hx => ?_, fun x hx => ?_, h 1717 (by omega), h 1718 (by omega), h 1719 (by omega), h 1720 (by omega), h 1721 (by omega), fun l hl => ⟨?_, ?_, ?_, ?_, ?_⟩⟩, h 0 (by omega), h 1 (by omega)⟩
  · show f' (13400 * j + 2 + x) = f (13400 * j + 2 + x); rw [Nat.add_assoc]; exact h _ (by omega)
  · show f' (13400 * j + 130 + x) = f (13400 * j + 130 + x); rw [Nat.add_assoc]; exact h _ (by omega)
  · show f' (13400 * j + 258 + x) = f (13400 * j + 258 + x); rw [Nat.add_assoc]; exact h _ (by omega)
  · show f' (13400 * j + 358 + x) = f (13400 * j + 358 + x); rw [Nat.add_assoc]; exact h _ (by omega)
  · show f' (13400 * j + 518 + x) = f (13400 * j + 518 + x); rw [Nat.add_assoc]; exact h _ (by omega)
  · show f' (13400 * j + 678 + x) = f (13400 * j + 678 + x); rw [Nat.add_assoc]; exact h _ (by omega)
  · show f' (13400 * j + 1702 + x) = f (13400 * j + 1702 + x); rw [Nat.add_assoc]; exact h _ (by omega)
  · show f' (13400 * j + 1712 + x) = f (13400 * j + 1712 + x); rw [Nat.add_assoc]; exact h _ (by omega)
  · show f' (13400 * j + 1722 + 5 * l) = f (13400 * j + 1722 + 5 * l); rw [Nat.add_assoc]; exact h _ (by omega)
  · show f' (13400 * j + 1723 + 5 * l) = f (13400 * j + 1723 + 5 * l); rw [Nat.add_assoc]; exact h _ (by omega)
  · show f' (13400 * j + 1724 + 5 * l) = f (13400 * j + 1724 + 5 * l); rw [Nat.add_assoc]; exact h _ (by omega)
  · show f' (13400 * j + 1725 + 5 * l) = f (13400 * j + 1725 + 5 * l); rw [Nat.add_assoc]; exact h _ (by omega)
  · show f' (13400 * j + 1726 + 5 * l) = f (13400 * j + 1726 + 5 * l); rw [Nat.add_assoc]; exact h _ (by omega)
theorem i4 (a : Int32) : ¬ a < 4 ↔ nI 4 ≤ a := Int32.not_lt
theorem i3 (a : Int32) : (3 : Int32) < a ↔ nI 4 ≤ a := by
  have h := i_lt_le a 3 4 (by decide)
  exact h.symm
theorem op_image {B : Nat} {gC : cm_M} {gR : jm_M} (h : b_R B gC gR) (a : Int32) : b_ok2 B 17 6990 (fun MC MS => vc_X10_image MC MS a gC) (vr_image a gR) := by
  obtain ⟨M, T, N, hT, hX, ht, hH, hW, hP, hA, hI⟩ := id h
  obtain ⟨hM, hT16, hN, c12, r1, c13, r3, c14, r5, e4⟩ := id hT
  rcases ix_cases a (n := 4) (by omega) with h1 | ⟨i, hi, rfl, h1⟩
  · refine ⟨-1, fun g => g = gC, fun g => g = gR, fun MC MS P _ _ hp => ?_, fun P hp => ?_, fun g g2 e1 e2 => by rw [e1, e2]; exact h⟩
    · refine ⟨fun _ => hp _ rfl, fun i hi e => absurd h1 (fun q => ?_)⟩
      rw [e] at q
      rcases q with q | q
      · exact nI_pos (by omega) q
      · exact nI_ge hi (by omega) q
    · unfold vr_image
      rw [vr_in_iff, if_pos (show a < 0 ∨ 3 < a by rcases h1 with q | q; exact Or.inl q; exact Or.inr ((i3 a).mpr q))]
      exact ⟨fun q => absurd rfl q, fun _ => hp _ rfl⟩
  · obtain ⟨gd, gj, c⟩ := gC
    have hlen : len_ok (match gd.2.2.1 i with | none => hs_n0 | some _ => gd.2.2.2.1 i) := by
      rcases hI i hi with ⟨q1, q2⟩ | ⟨a0, q1, q2, q3, q4, T0, q5, q6, q7⟩
      · have q1' : gd.2.2.1 i = none := q1
        rw [q1']; exact n0_len
      · have q1' : gd.2.2.1 i = some a0 := q1
        rw [q1']; exact H_len q7
    have hlo := H_len hH
    obtain ⟨k, ks, kw, hok, hk, hks, e40⟩ := H_ok hH hlen
    obtain ⟨hy, hr, hkk, ⟨u1, u2, u3, u4, u5, u6⟩, hS, ⟨S, e, l1, l2, l3, l4, l5, l6, l7, l8, l9⟩⟩ := id hH
    obtain rfl : S = ks := (nI_eq (by omega) (by omega)).mp (l3.symm.trans e40)
    have h45 : ∀ l, l < S → gR 45 l = 0 ∨ gR 45 l = 1 := fun l hl => by
      obtain ⟨k0, f0, t0, b1, b2, b3, b4, b5, b6, b7, b8, b9⟩ := l8 l hl
      exact b9
    have ti : (nI i).toNatClampNeg = i := tn_nI (by omega)
    refine ⟨1, fun g => ∃ (a2 n2 : Nat → Nat) (g2 : jm_M), hs_len k S (match gd.2.2.1 i with | none => hs_n0 | some _ => gd.2.2.2.1 i) gd.2.1 n2 ∧ hs_same k S kw g2 c ∧ g = cm_a (cm_a (cd_put gd i a2 n2 g2, gj, c) 0 (nI i) (c 12 0)) 1 (nI i) (c 13 0), fun g => ∃ f', b_iv (13400 * i) (b_tg gR) (gR 61) f' (1722 + 5 * S) ∧ g = b_at (gR 62) (jm_u (jm_u gR 60 (upd (gR 60) i 1)) 61 f') (13400 * i + (1722 + 5 * S)), fun MC MS P hMC hMS hp => ?_, fun P hp => img_r hi l1 l3 u3 h45 P (fun f' hf' => hp _ ⟨f', hf', rfl⟩), ?_⟩
    · refine ⟨fun q => absurd q (fun w => ?_), fun i2 hi2 e2 => ?_⟩
      · rcases w with w | w
        · exact h1 (Or.inl w)
        · exact h1 (Or.inr ((i4 _).mp w))
      · obtain rfl : i2 = i := (nI_eq (by omega) (by omega)).mp e2.symm
        obtain ⟨o1, o2, o3, o4, o5, o6⟩ := hlo
        exact ⟨k, S, kw, by omega, by have a1 : gd.2.1 0 ≤ 1024 := o2
                                      have a2 : gd.2.1 2 ≤ 2048 := o5
                                      show 846 + (2 * gd.2.1 0 + 2 * gd.2.1 2) ≤ MS
                                      omega, hok, fun a2 n2 g2 hl hs => hp _ ⟨a2, n2, g2, hl, hs, rfl⟩⟩
    · rintro g g2 ⟨a2, n2, gi, hl, hs, rfl⟩ ⟨f', hf', rfl⟩
      obtain ⟨im1, im2, im3⟩ := iv_im hf'
      obtain ⟨ln, ln2, ln3⟩ := len_len hl hlen hlo
      refine ⟨M, T, N, hT, hX, ht, hH, hW, hP, hA, fun j hj => ?_⟩
      by_cases q : j = i
      · subst q
        refine Or.inr ⟨a2, va_up_self _ _ _, ?_, ?_, ?_, T, hT16, im3.trans r3, ?_⟩
        · show upd (gR 60) j 1 j = 1
          exact pk_us
        · show upd (c 0) (nI j).toNatClampNeg (c 12 0) j = f' (13400 * j)
          rw [ti, pk_us, im2, r1]; exact c12
        · show upd (c 1) (nI j).toNatClampNeg (c 13 0) j = f' (13400 * j + 1)
          rw [ti, pk_us, im3, r3]; exact c13
        · show b_H B T (va_up gd.2.2.2.1 j n2 j) (va_up gd.2.2.2.2 j gi j) (b_im f' j)
          rw [va_up_self, va_up_self]
          exact H_copy hH hok hk hks hs im1 ln ln2 ln3
      · rcases hI j hj with ⟨q1, q2⟩ | ⟨a0, q1, q2, q3, q4, T0, q5, q6, q7⟩
        · refine Or.inl ⟨?_, ?_⟩
          · show va_up gd.2.2.1 i (some a2) j = none
            rw [va_up_ne _ _ q]; exact q1
          · show upd (gR 60) i 1 j = 0
            rw [pk_un q]; exact q2
        · obtain ⟨k0, ks0, kw0, ok0, b1, b2, b3⟩ := H_ok q7 (H_len q7)
          obtain ⟨s1, s2, s3⟩ := iv_other (S := ks0) q hf' b2
          refine Or.inr ⟨a0, ?_, ?_, ?_, ?_, T0, q5, s3.trans q6, ?_⟩
          · show va_up gd.2.2.1 i (some a2) j = some a0
            rw [va_up_ne _ _ q]; exact q1
          · show upd (gR 60) i 1 j = 1
            rw [pk_un q]; exact q2
          · show upd (c 0) (nI i).toNatClampNeg (c 12 0) j = f' (13400 * j)
            rw [ti, pk_un q, s2]; exact q3
          · show upd (c 1) (nI i).toNatClampNeg (c 13 0) j = f' (13400 * j + 1)
            rw [ti, pk_un q, s3]; exact q4
          · show b_H B T0 (va_up gd.2.2.2.1 i n2 j) (va_up gd.2.2.2.2 i gi j) (b_im f' j)
            rw [va_up_ne _ _ q, va_up_ne _ _ q]
            obtain ⟨-, -, -, -, -, -, p7, -, -, -, -, p12, -⟩ := id ok0
            exact H_copy q7 ok0 b1 b2 (hs_refl _ _ _ _) s1 (H_len q7) p7 p12
