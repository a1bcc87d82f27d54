theorem pl74 {B M T R most k m o : Nat} {gd : cm_D} {gj0 : cm_J} {c0 r : jm_M} (hX : k_X B M T R most gd gj0 c0 r) {p : Nat → Nat} (hm : m + (k + 1) = M) (REC : Int32 → Int32 → Int64 → cm_M → (cm_M → Prop) → Prop) (hREC : ∀ (rr o' : Nat) (b : k_B) (gj : cm_J) (J : jm_M) (Post : cm_M → Prop), rr < 6 → o' ≤ o + 1 → k_S M (m + 1) c0 r gj0 (rg_st p m rr) b gj J → (∀ gj' J', k_S M (m + 1) c0 r gj0 (rg_st p m rr) (k_C (q_pr r T) (k_ok r most) R k (rg_st p m rr) (m + 1) o' b) gj' J' → Post (gd, gj', J')) → REC (nI (m + 1)) (nI o') (lN (q_pr r T (rg_st p m rr) (m + 1))) (gd, gj, J) Post) (ho6 : o ≤ 9) (b0 : k_B) (Post : cm_M → Prop) (hP : ∀ gj J, k_S M m c0 r gj0 p (k_f (fun x b => k_i (k_ok r most p m x) (k_C (q_pr r T) (k_ok r most) R k (rg_st p m x) (m + 1) (if x = o then o + 1 else o) b) b) (if o + 1 ≤ R then o + 1 else R) b0) gj J → Post (gd, gj, J)) : ∀ d rr gj J, rr + d = (if o + 1 ≤ R then o + 1 else R) → k_S M m c0 r gj0 p (k_f (fun x b => k_i (k_ok r most p m x) (k_C (q_pr r T) (k_ok r most) R k (rg_st p m x) (m + 1) (if x = o then o + 1 else o) b) b) rr b0) gj J → vc_X2_place_74 REC (nI m) (nI o) (lN (q_pr r T p m)) (nI (k_sz r m)) Post (d + 1) (nI rr) (gd, gj, J)
  | 0, rr, gj, J, hd, hS => by
    obtain ⟨x1, x2, x3, x4, x5, x6, x7, x8, x9⟩ := id hX
    rw [Nat.add_zero] at hd
    have f48 : ((gd, gj, J) : cm_M).2.2 48 0 = nI R := by show J 48 0 = _; rw [hS.1 48 (by decide) (by decide)]; exact x7
    have fin : Post (gd, gj, J) := hP gj J (by rw [← hd]; exact hS)
    unfold vc_X2_place_74
    rw [f48]
    refine ⟨fun _ => fin, fun q => ⟨fun _ => fin, fun q2 => ?_⟩⟩
    by_cases e : o + 1 ≤ R
    · rw [if_pos e] at hd
      exact absurd (nI_lt (a := o) (b := rr) (by omega) (by omega)) q
    · rw [if_neg e] at hd
      exact absurd (nI_le (a := R) (b := rr) (by omega) (by omega)) q2
  | d + 1, rr, gj, J, hd, hS => by
    obtain ⟨x1, x2, x3, x4, x5, x6, x7, x8, x9, x10, x11, x12, x13⟩ := id hX
    obtain ⟨s1, s2, s3, s4⟩ := id hS
    have hro : rr ≤ o ∧ rr < R := by
      by_cases e : o + 1 ≤ R
      · rw [if_pos e] at hd; omega
      · rw [if_neg e] at hd; omega
    have hmM : m < M := by omega
    obtain ⟨sz1, sz2⟩ := x6 m hmM
    obtain ⟨⟨y, y1, y2, y3⟩, l1⟩ := s3.1 rr (by omega)
    obtain ⟨⟨yt, t1, t2, t3⟩, ⟨ya, a1, a2, a3⟩⟩ := x12 m hmM
    obtain ⟨L, hL⟩ : ∃ L, L = sS (fun k => if p k = rr then k_sz r k else 0) m := ⟨_, rfl⟩
    have hLle : L ≤ m * 99 := by rw [hL]; exact sz_le (fun k hk => (x6 k hk).1) p rr (by omega)
    have f48 : ((gd, gj, J) : cm_M).2.2 48 0 = nI R := by show J 48 0 = _; rw [s1 48 (by decide) (by decide)]; exact x7
    have f49 : ((gd, gj, J) : cm_M).2.2 49 0 = nI most := by show J 49 0 = _; rw [s1 49 (by decide) (by decide)]; exact x8
    have f43 : ((gd, gj, J) : cm_M).2.2 43 rr = nI L := by rw [hL]; exact l1
    have f42 : ((gd, gj, J) : cm_M).2.2 42 rr = nI y := y2
    have f46 : ((gd, gj, J) : cm_M).2.2 46 m = nI yt := by show J 46 m = _; rw [s1 46 (by decide) (by decide)]; exact t2
    have f47 : ((gd, gj, J) : cm_M).2.2 47 m = nI ya := by show J 47 m = _; rw [s1 47 (by decide) (by decide)]; exact a2
    obtain ⟨F, hF⟩ : ∃ F : Nat → k_B → k_B, F = fun x b => k_i (k_ok r most p m x) (k_C (q_pr r T) (k_ok r most) R k (rg_st p m x) (m + 1) (if x = o then o + 1 else o) b) b := ⟨_, rfl⟩
    rw [← hF] at hP hS s4
    have hnext : ∀ gj2 J2, k_S M m c0 r gj0 p (F rr (k_f F rr b0)) gj2 J2 → vc_X2_place_74 REC (nI m) (nI o) (lN (q_pr r T p m)) (nI (k_sz r m)) Post (d + 1) (nI (rr + 1)) (gd, gj2, J2) := fun gj2 J2 h2 => by
      refine pl74 hX hm REC hREC ho6 b0 Post (by rw [← hF]; exact hP) d (rr + 1) gj2 J2 (by omega) ?_
      rw [← hF]; exact h2
    have skip : ¬ k_ok r most p m rr → vc_X2_place_74 REC (nI m) (nI o) (lN (q_pr r T p m)) (nI (k_sz r m)) Post (d + 1) (nI (rr + 1)) (gd, gj, J) := fun w => hnext gj J (by
      have e : F rr (k_f F rr b0) = k_f F rr b0 := by rw [hF]; exact ki_n w
      rw [e]; exact hS)
    have iv : vp_in (nI rr) 6 := vp_in_nI (by omega) (by omega)
    unfold vc_X2_place_74
    rw [f48, f49, tn_nI (by omega), f43, f42, nI_add, nI_1]
    refine ⟨fun q => absurd q (nI_nlt (by omega) (by omega)), fun _ => ⟨fun q => absurd q (nI_ge (by omega) (by omega)), fun _ => ⟨iv, fun q => skip (fun w => ?_), fun q => ⟨iv, ?_⟩⟩⟩⟩
    · have h1 := (nI_ltI (by omega) (by omega)).mp q
      have h2 := w.1
      rw [← hL] at h2
      omega
    · have hload : L + k_sz r m ≤ most := by
        rcases Nat.lt_or_ge most (L + k_sz r m) with u | u
        · exact absurd (nI_lt u (by omega)) q
        · exact u
      refine al_of (by omega) y1 y3 a1 f47 a3 t1 f46 t3 _ (fun told => ⟨fun w => absurd w (by decide), fun _ => ⟨iv, ?_⟩⟩) (fun told => ⟨fun _ => skip (fun w => told w.2), fun w => absurd rfl w⟩)
      have hok : k_ok r most p m rr := ⟨by rw [← hL]; exact hload, told⟩
      have eF : F rr (k_f F rr b0) = k_C (q_pr r T) (k_ok r most) R k (rg_st p m rr) (m + 1) (if rr = o then o + 1 else o) (k_f F rr b0) := by
        have : F rr (k_f F rr b0) = k_i (k_ok r most p m rr) (k_C (q_pr r T) (k_ok r most) R k (rg_st p m rr) (m + 1) (if rr = o then o + 1 else o) (k_f F rr b0)) (k_f F rr b0) := by rw [hF]
        rw [this, ki_y hok]
      refine ad_of (g := (gd, gj, J)) (M := M) (T := T) (r := r) (p := p) (rr := rr) x1 (by omega) hmM (by show q_inv M (gj 0) _; rw [s2 0 (by decide)]; exact x9) (by show gj 1 0 = _; rw [s2 1 (by decide)]; exact x10) (b_S_c x11 (s1 34 (by decide) (by decide)) (s1 35 (by decide) (by decide)) (s1 36 (by decide) (by decide))) (by omega) y3 _ (fun ad hadd => ⟨vp_in_nI (by omega) (by omega), nm_e ⟨iv, iv, nm_e ⟨iv, iv, nm_e ?_⟩⟩⟩)
      obtain ⟨J16, hJ16⟩ : ∃ J16, J16 = jm_u (jm_u (jm_u J 44 (upd (J 44) m (nI rr))) 42 (upd (J 42) rr (nI (y ||| 2 ^ m)))) 43 (upd (J 43) rr (nI (sS (fun k => if p k = rr then k_sz r k else 0) m + k_sz r m))) := ⟨_, rfl⟩
      have h42 : (cm_a (gd, gj, J) 44 (nI m) (nI rr)).2.2 42 rr = nI y := y2
      rw [h42, nI_shl1 (by omega), nI_or]
      have h43 : (cm_a (cm_a (gd, gj, J) 44 (nI m) (nI rr)) 42 (nI rr) (nI (y ||| 2 ^ m))).2.2 43 rr = nI L := f43
      rw [h43, nI_add]
      have e16 : cm_a (cm_a (cm_a (gd, gj, J) 44 (nI m) (nI rr)) 42 (nI rr) (nI (y ||| 2 ^ m))) 43 (nI rr) (nI (L + k_sz r m)) = (gd, gj, J16) := by
        show (gd, gj, jm_a (jm_a (jm_a J 44 (nI m) (nI rr)) 42 (nI rr) (nI (y ||| 2 ^ m))) 43 (nI rr) (nI (L + k_sz r m))) = _
        rw [jm_as _ _ _ (by omega), jm_as _ _ _ (by omega), jm_as _ _ _ (by omega), hJ16, hL]
        rfl
      rw [e16, lN_add, ← hadd]
      have jk : ∀ x, x ≠ 42 → x ≠ 43 → x ≠ 44 → J16 x = J x := fun x h1 h2 h3 => by rw [hJ16, jm_un _ _ h2, jm_un _ _ h1, jm_un _ _ h3]
      have hS16 : k_S M (m + 1) c0 r gj0 (rg_st p m rr) (k_f F rr b0) gj J16 := by
        refine ⟨fun x h1 h2 => by rw [jk x (by omega) (by omega) (by omega)]; exact s1 x h1 h2, s2, by rw [hJ16]; exact S2_in (by omega) (by omega) s3 y1 y2 y3, ?_⟩
        unfold k_S4
        rw [jk 50 (by decide) (by decide) (by decide), jk 45 (by decide) (by decide) (by decide)]
        exact s4
      have back : ∀ gj' J', k_S M (m + 1) c0 r gj0 (rg_st p m rr) (F rr (k_f F rr b0)) gj' J' → (vp_in (nI rr) 6) ∧ ((vp_in (nI rr) 6) ∧ (∀ g20 : cm_M, g20 = cm_a (gd, gj', J') 42 (nI rr) ((((gd, gj', J') : cm_M).2.2 42 rr) &&& (nI (2 ^ m) ^^^ (-1))) → ((vp_in (nI rr) 6) ∧ ((vp_in (nI rr) 6) ∧ (∀ g21 : cm_M, g21 = cm_a g20 43 (nI rr) ((g20.2.2 43 rr) - nI (k_sz r m)) → (vc_X2_place_74 REC (nI m) (nI o) (lN (q_pr r T p m)) (nI (k_sz r m)) Post (d + 1) (nI (rr + 1)) g21)))))) := by
        intro gj' J' h'
        obtain ⟨v1, v2, v3, v4⟩ := id h'
        obtain ⟨y', o1, o2, o3⟩ := S2_out (by omega) (by omega) v3
        refine ⟨iv, iv, nm_e ⟨iv, iv, nm_e ?_⟩⟩
        have e42 : ((gd, gj', J') : cm_M).2.2 42 rr &&& (nI (2 ^ m) ^^^ (-1)) = nI y' := by rw [← nI_shl1 (show m < 31 by omega)]; exact o1
        rw [e42]
        have e43 : (cm_a (gd, gj', J') 42 (nI rr) (nI y')).2.2 43 rr - nI (k_sz r m) = nI (sS (fun k => if p k = rr then k_sz r k else 0) m) := o2
        rw [e43]
        have e21 : cm_a (cm_a (gd, gj', J') 42 (nI rr) (nI y')) 43 (nI rr) (nI (sS (fun k => if p k = rr then k_sz r k else 0) m)) = (gd, gj', jm_u (jm_u J' 42 (upd (J' 42) rr (nI y'))) 43 (upd (J' 43) rr (nI (sS (fun k => if p k = rr then k_sz r k else 0) m)))) := by
          show (gd, gj', jm_a (jm_a J' 42 (nI rr) (nI y')) 43 (nI rr) (nI (sS (fun k => if p k = rr then k_sz r k else 0) m))) = _
          rw [jm_as _ _ _ (by omega), jm_as _ _ _ (by omega)]
          rfl
        rw [e21]
        refine hnext gj' _ ⟨fun x h1 h2 => by rw [jm_un _ _ (by omega), jm_un _ _ (by omega)]; exact v1 x h1 h2, v2, o3, ?_⟩
        unfold k_S4
        rw [jm_un _ _ (by decide), jm_un _ _ (by decide), jm_un _ _ (by decide), jm_un _ _ (by decide)]
        exact v4
      have eo : nI rr = nI o ↔ rr = o := nI_eq (by omega) (by omega)
      rw [eo]
      refine ⟨fun w => ?_, fun w => ?_⟩
      · rw [show nI m + 1 = nI (m + 1) from nI_1 m]
        refine hREC rr o (k_f F rr b0) gj J16 _ (by omega) (by omega) hS16 ?_
        intro gj' J' h'
        refine back gj' J' ?_
        rw [eF, if_neg w]; exact h'
      · rw [show nI m + 1 = nI (m + 1) from nI_1 m, show nI o + 1 = nI (o + 1) from nI_1 o]
        refine hREC rr (o + 1) (k_f F rr b0) gj J16 _ (by omega) (by omega) hS16 ?_
        intro gj' J' h'
        refine back gj' J' ?_
        rw [eF, if_pos w]; exact h'
theorem pl_all {B M T R most : Nat} {gd : cm_D} {gj0 : cm_J} {c0 r : jm_M} (hX : k_X B M T R most gd gj0 c0 r) : ∀ (k m o : Nat) (p : Nat → Nat) (b : k_B) (gj : cm_J) (J : jm_M) (d : Nat) (Post : cm_M → Prop), m + k = M → k + 1 ≤ d → o ≤ m → k_S M m c0 r gj0 p b gj J → (∀ gj' J', k_S M m c0 r gj0 p (k_C (q_pr r T) (k_ok r most) R k p m o b) gj' J' → Post (gd, gj', J')) → vc_X2_place d (nI m) (nI o) (lN (q_pr r T p m)) (gd, gj, J) Post := by
  intro k
  induction k with
  | zero =>
    intro m o p b gj J d Post hm hd ho hS hP
    obtain ⟨x1, x2, x3, x4, x5, x6, x7, x8, x9, x10, x11, x12, x13⟩ := id hX
    obtain ⟨d', rfl⟩ : ∃ d', d = d' + 1 := ⟨d - 1, by omega⟩
    obtain rfl : m = M := by omega
    obtain ⟨s1, s2, s3, s4⟩ := id hS
    have f12 : ((gd, gj, J) : cm_M).2.2 12 0 = nI m := by show J 12 0 = _; rw [s1 12 (by decide) (by decide)]; exact x5
    have hlt := x13 p m (Nat.le_refl m)
    have rcd : ¬ k_w b (q_pr r T p m) → ∀ g3 : cm_M, g3 = cm_s (gd, gj, J) 50 1 → (∀ g4 : cm_M, g4 = cm_ls g3 2 (lN (q_pr r T p m)) → (∀ g5 : cm_M, g5 = cm_u g4 45 (va_cpy (g4.2.2 44) (g4.2.2 45) 0 0 9) → (Post g5))) := fun w => nm_e (nm_e (nm_e (by
      refine hP _ _ ⟨fun x h1 h2 => ?_, fun x h1 => ?_, ?_, ?_⟩
      · show jm_u (jm_s J 50 1) 45 _ x = _
        rw [jm_un _ _ (by omega), js_un _ _ h1]; exact s1 x h1 h2
      · show jl_u gj 2 _ x = _
        rw [jl_un _ _ h1]; exact s2 x h1
      · exact s3
      · have e : k_C (q_pr r T) (k_ok r most) R 0 p m o b = some (q_pr r T p m, p) := ki_n w
        rw [e]
        refine Or.inr ⟨q_pr r T p m, p, hlt, rfl, rfl, ?_, fun j hj => ?_⟩
        · show jl_u gj 2 (vp_updL (gj 2) 0 (lN (q_pr r T p m))) 2 0 = _
          rw [jl_uk, pk_uLs]
        · show va_cpy (J 44) (J 45) 0 0 9 j = _
          rw [pk_cpy_in (Nat.zero_le j) (by omega), Nat.zero_add, Nat.sub_zero]
          exact s3.2 j hj)))
    have stay : k_w b (q_pr r T p m) → Post (gd, gj, J) := fun w => hP gj J (by
      have e : k_C (q_pr r T) (k_ok r most) R 0 p m o b = b := ki_y w
      rw [e]; exact hS)
    show vc_X2_place_B (vc_X2_place d') (nI m) (nI o) (lN (q_pr r T p m)) (gd, gj, J) Post
    unfold vc_X2_place_B
    rw [f12]
    have le : nI m ≤ nI m := nI_le (Nat.le_refl _) (by omega)
    rcases s4 with ⟨rfl, e50⟩ | ⟨c, x, hc, rfl, e50, e2, e45⟩
    · have nw : ¬ k_w none (q_pr r T p m) := fun ⟨c', x', e, _⟩ => by cases e
      exact ⟨fun _ => ⟨fun _ => rcd nw, fun q => absurd le q⟩, fun q => absurd e50 q⟩
    · have g2 : ((gd, gj, J) : cm_M).2.1 2 0 = lN c := e2
      have n0 : ¬ ((gd, gj, J) : cm_M).2.2 50 0 = 0 := fun q => absurd (e50.symm.trans q) (by decide)
      rw [g2, lg_cmp_lt, pk_lLT (by omega) (by omega)]
      refine ⟨fun q => absurd q n0, fun _ => ⟨fun q => ⟨fun _ => rcd (fun ⟨c', x', e, h⟩ => ?_), fun q2 => absurd le q2⟩, fun q => stay ⟨c, x, rfl, by omega⟩⟩⟩
      cases e
      omega
  | succ k ih =>
    intro m o p b gj J d Post hm hd ho hS hP
    obtain ⟨x1, x2, x3, x4, x5, x6, x7, x8, x9, x10, x11, x12, x13⟩ := id hX
    obtain ⟨d', rfl⟩ : ∃ d', d = d' + 1 := ⟨d - 1, by omega⟩
    obtain ⟨s1, s2, s3, s4⟩ := id hS
    have hlt := x13 p m (by omega)
    have f12 : ((gd, gj, J) : cm_M).2.2 12 0 = nI M := by show J 12 0 = _; rw [s1 12 (by decide) (by decide)]; exact x5
    have f4 : ((gd, gj, J) : cm_M).2.2 4 m = nI (k_sz r m) := by show J 4 m = _; rw [s1 4 (by decide) (by decide)]; exact (x6 m (by omega)).2
    have go : ¬ k_w b (q_pr r T p m) → ∃ n26 : Nat, vc_X2_place_74 (vc_X2_place d') (nI m) (nI o) (lN (q_pr r T p m)) (nI (k_sz r m)) Post n26 0 (gd, gj, J) := fun w => by
      have eC : k_C (q_pr r T) (k_ok r most) R (k + 1) p m o b = k_f (fun x b => k_i (k_ok r most p m x) (k_C (q_pr r T) (k_ok r most) R k (rg_st p m x) (m + 1) (if x = o then o + 1 else o) b) b) (if o + 1 ≤ R then o + 1 else R) b := ki_n w
      rw [eC] at hP
      exact ⟨(if o + 1 ≤ R then o + 1 else R) + 1, pl74 hX hm (vc_X2_place d') (fun rr o' b2 gj2 J2 Post2 hr ho2 h2 hp2 => ih (m + 1) o' (rg_st p m rr) b2 gj2 J2 d' Post2 (by omega) (by omega) (by omega) h2 hp2) (by omega) b Post hP (if o + 1 ≤ R then o + 1 else R) 0 gj J (by omega) hS⟩
    have stay : k_w b (q_pr r T p m) → Post (gd, gj, J) := fun w => hP gj J (by
      have e : k_C (q_pr r T) (k_ok r most) R (k + 1) p m o b = b := ki_y w
      rw [e]; exact hS)
    show vc_X2_place_B (vc_X2_place d') (nI m) (nI o) (lN (q_pr r T p m)) (gd, gj, J) Post
    unfold vc_X2_place_B
    rw [f12, tn_nI (by omega), f4]
    have nle : ¬ nI M ≤ nI m := nI_ge (by omega) (by omega)
    have lt9 : nI m < 9 := nI_lt (b := 9) (by omega) (by omega)
    rcases s4 with ⟨rfl, e50⟩ | ⟨c, x, hc, rfl, e50, e2, e45⟩
    · have nw : ¬ k_w none (q_pr r T p m) := fun ⟨c', x', e, _⟩ => by cases e
      exact ⟨fun _ => ⟨fun q => absurd q nle, fun _ => ⟨fun _ => ⟨vp_in_nI (by omega) (by omega), nm_e (go nw)⟩, fun q => absurd lt9 q⟩⟩, fun q => absurd e50 q⟩
    · have g2 : ((gd, gj, J) : cm_M).2.1 2 0 = lN c := e2
      have n0 : ¬ ((gd, gj, J) : cm_M).2.2 50 0 = 0 := fun q => absurd (e50.symm.trans q) (by decide)
      rw [g2, lg_cmp_lt, pk_lLT (by omega) (by omega)]
      refine ⟨fun q => absurd q n0, fun _ => ⟨fun q => ⟨fun q2 => absurd q2 nle, fun _ => ⟨fun _ => ⟨vp_in_nI (by omega) (by omega), nm_e (go (fun ⟨c', x', e, h⟩ => ?_))⟩, fun q2 => absurd lt9 q2⟩⟩, fun q => stay ⟨c, x, rfl, by omega⟩⟩⟩
      cases e
      omega
