theorem kA_w {pr : (Nat → Nat) → Nat → Nat} {ok : (Nat → Nat) → Nat → Nat → Prop} {R : Nat} {p : Nat → Nat} {m : Nat} {b : k_B} (h : k_w b (pr p m)) : ∀ k, k_A pr ok R k p m b = b
  | 0 => ki_y h
  | _ + 1 => ki_y h
theorem k_T {M T R most k : Nat} {r0 : jm_M} (hR : k_R M T R most r0) (K Post : Int64 → jm_M → Prop) (hU : k_U M T R most r0 K Post k) {m : Nat} {p : Nat → Nat} (hm : m + (k + 1) = M) (b0 : k_B) : ∀ (d rr : Nat) (J : jm_M), rr + d = R → (∀ j, j < m → p j < 6 ∧ J 36 j = nI (p j)) → J 36 m + 1 = nI rr → k_J M r0 J (k_f (fun x b => k_i (k_ok r0 most p m x) (k_A (q_pr r0 T) (k_ok r0 most) R k (rg_st p m x) (m + 1) b) b) rr b0) → ∃ (J' : jm_M) (N : Nat), k_J M r0 J' (k_f (fun x b => k_i (k_ok r0 most p m x) (k_A (q_pr r0 T) (k_ok r0 most) R k (rg_st p m x) (m + 1) b) b) R b0) ∧ (∀ j, j < m → J' 36 j = nI (p j)) ∧ ∀ f, vr_cut_52 (nI R) (nI most) K K Post f (k_l (k_f (fun x b => k_i (k_ok r0 most p m x) (k_A (q_pr r0 T) (k_ok r0 most) R k (rg_st p m x) (m + 1) b) b) R b0)) (nI m + (-1)) J' → vr_cut_52 (nI R) (nI most) K K Post (f + N) (k_l (k_f (fun x b => k_i (k_ok r0 most p m x) (k_A (q_pr r0 T) (k_ok r0 most) R k (rg_st p m x) (m + 1) b) b) rr b0)) (nI m) J
  | 0, rr, J, hd, hp, hv, hJ => by
    obtain rfl : rr = R := by omega
    obtain ⟨hM, hR6, hmost, hq, r1, hsz⟩ := id hR
    have e1 : J 1 0 = nI M := by rw [hJ.1 1 (by decide)]; exact r1
    have g9 : jm_a J 36 (nI m) (J 36 (nI m).toNatClampNeg + 1) = jm_u J 36 (upd (J 36) m (nI rr)) := by rw [tn_nI (by omega), jm_as _ _ _ (by omega), hv]
    refine ⟨jm_u J 36 (upd (J 36) m (nI rr)), 1, ⟨fun k hk => by rw [jm_un _ _ (by omega)]; exact hJ.1 k hk, fun c x e => by rw [jm_un _ _ (by decide)]; exact hJ.2.1 c x e, fun e => by rw [jm_un _ _ (by decide)]; exact hJ.2.2 e⟩, fun j hj => by rw [jm_uk, pk_un (by omega)]; exact (hp j hj).2, fun f h => ?_⟩
    have k3 : (jm_u J 36 (upd (J 36) m (nI rr))) 36 (nI m).toNatClampNeg = nI rr := by rw [tn_nI (by omega), jm_uk, pk_us]
    unfold vr_cut_52
    rw [e1, g9]
    exact ⟨fun q => absurd q (nI_pos (by omega)), fun _ => ⟨fun _ => ⟨vp_in_nI (by omega) (by omega), vp_in_nI (by omega) (by omega), nm_e ⟨vp_in_nI (by omega) (by omega), fun q => absurd k3 q, fun _ => h⟩⟩, fun q => absurd ((nI_eq (by omega) (by omega)).mp q) (by omega)⟩⟩
  | d + 1, rr, J, hd, hp, hv, hJ => by
    obtain ⟨hM, hR6, hmost, hq, r1, hsz⟩ := id hR
    obtain ⟨F, hF⟩ : ∃ F : Nat → k_B → k_B, F = fun x b => k_i (k_ok r0 most p m x) (k_A (q_pr r0 T) (k_ok r0 most) R k (rg_st p m x) (m + 1) b) b := ⟨_, rfl⟩
    rw [← hF] at hJ ⊢
    obtain ⟨b, hb⟩ : ∃ b, b = k_f F rr b0 := ⟨_, rfl⟩
    rw [← hb] at hJ ⊢
    have e1 : J 1 0 = nI M := by rw [hJ.1 1 (by decide)]; exact r1
    obtain ⟨G, hG⟩ : ∃ G, G = jm_u J 36 (upd (J 36) m (nI rr)) := ⟨_, rfl⟩
    have g9 : jm_a J 36 (nI m) (J 36 (nI m).toNatClampNeg + 1) = G := by rw [hG, tn_nI (by omega), jm_as _ _ _ (by omega), hv]
    have gk : ∀ k, k ≠ 36 → G k = J k := fun k h => by rw [hG]; exact jm_un _ _ h
    have g36 : G 36 = upd (J 36) m (nI rr) := by rw [hG]; exact jm_uk _ _ _
    have hpG : ∀ j, j ≤ m → rg_st p m rr j < 6 ∧ G 36 j = nI (rg_st p m rr j) := fun j hj => by
      by_cases e : j = m
      · rw [e, st_s, g36, pk_us]; exact ⟨by omega, rfl⟩
      · rw [st_n _ e, g36, pk_un e]; exact hp j (by omega)
    obtain ⟨w', hmb⟩ := mb_of (J := G) (M := M) (rr := rr) (most := most) (r := r0) (p := p) hM (by omega) hmost (fun k hk => (hsz k hk).1) hpG (fun j hj => by rw [gk 2 (by decide), hJ.1 2 (by decide)]; exact (hsz j hj).2) (by rw [gk 32 (by decide)]; exact hJ.1 32 (by decide))
    obtain ⟨H, hH⟩ : ∃ H, H = jm_u G 37 w' := ⟨_, rfl⟩
    rw [← hH] at hmb
    have hk : ∀ k, k ≠ 37 → H k = G k := fun k h => by rw [hH]; exact jm_un _ _ h
    have hJH : k_J M r0 H b := ⟨fun k h => by rw [hk k (by omega), gk k (by omega)]; exact hJ.1 k h, fun c x e => by rw [hk 35 (by decide), gk 35 (by decide)]; exact hJ.2.1 c x e, fun e => by rw [hk 35 (by decide), gk 35 (by decide)]; exact hJ.2.2 e⟩
    have hpH : ∀ j, j < m + 1 → rg_st p m rr j < 6 ∧ H 36 j = nI (rg_st p m rr j) := fun j hj => by rw [hk 36 (by decide)]; exact hpG j (by omega)
    have h1H : H 1 0 = nI M := by rw [hJH.1 1 (by decide)]; exact r1
    have eFs : k_f F (rr + 1) b0 = F rr b := by rw [hb]; rfl
    have rrR : ¬ G 36 (nI m).toNatClampNeg = nI R := fun q => by
      rw [tn_nI (by omega), g36, pk_us] at q
      have := (nI_eq (by omega) (by omega)).mp q
      omega
    have enter : ∀ f (x3 : Int64), (k_ok r0 most p m rr → ((((lg_cmp x3 (0 : Int64)) < 0) → ((((H 1 0) ≤ nI (m + 1)) → (vr_cut_52 (nI R) (nI most) K K Post f x3 (nI (m + 1)) H)) ∧ ((¬ (H 1 0) ≤ nI (m + 1)) → ((vp_in (nI (m + 1)) 10) ∧ (∀ g16 : jm_M, g16 = jm_a H 36 (nI (m + 1)) (-1) → (vr_cut_52 (nI R) (nI most) K K Post f x3 (nI (m + 1)) g16)))))) ∧ ((¬ (lg_cmp x3 (0 : Int64)) < 0) → (vr_priceOf 36 (nI (m + 1)) H (fun (r17 : Int64) => (((lg_cmp r17 x3) < 0) → ((((H 1 0) ≤ nI (m + 1)) → (vr_cut_52 (nI R) (nI most) K K Post f x3 (nI (m + 1)) H)) ∧ ((¬ (H 1 0) ≤ nI (m + 1)) → ((vp_in (nI (m + 1)) 10) ∧ (∀ g20 : jm_M, g20 = jm_a H 36 (nI (m + 1)) (-1) → (vr_cut_52 (nI R) (nI most) K K Post f x3 (nI (m + 1)) g20)))))) ∧ ((¬ (lg_cmp r17 x3) < 0) → (vr_cut_52 (nI R) (nI most) K K Post f x3 (nI m) H))))))) → (¬ k_ok r0 most p m rr → vr_cut_52 (nI R) (nI most) K K Post f x3 (nI m) H) → vr_cut_52 (nI R) (nI most) K K Post (f + 1) x3 (nI m) J := by
      intro f x3 q1 q0
      unfold vr_cut_52
      rw [e1, g9, show nI m + 1 = nI (m + 1) from nI_1 m]
      refine ⟨fun q => absurd q (nI_pos (by omega)), fun _ => ⟨fun _ => ⟨vp_in_nI (by omega) (by omega), vp_in_nI (by omega) (by omega), nm_e ⟨vp_in_nI (by omega) (by omega), fun _ => ?_, fun q => absurd q rrR⟩⟩, fun q => absurd ((nI_eq (by omega) (by omega)).mp q) (by omega)⟩⟩
      exact hmb _ (fun w => ⟨fun q => absurd q (by decide), fun _ => q1 w⟩) (fun w => ⟨fun _ => q0 w, fun q => absurd rfl q⟩)
    have stay : F rr b = b → ∃ (J' : jm_M) (N : Nat), k_J M r0 J' (k_f F R b0) ∧ (∀ j, j < m → J' 36 j = nI (p j)) ∧ ∀ f, vr_cut_52 (nI R) (nI most) K K Post f (k_l (k_f F R b0)) (nI m + (-1)) J' → vr_cut_52 (nI R) (nI most) K K Post (f + N) (k_l b) (nI m) H := fun e => by
      have := k_T hR K Post hU hm b0 d (rr + 1) H (by omega) (fun j hj => by
        have := hpH j (by omega)
        rw [st_n _ (by omega)] at this
        exact this) (by rw [(hpH m (by omega)).2, st_s, nI_1]) (by rw [← hF, eFs, e]; exact hJH)
      rw [← hF, eFs, e] at this
      exact this
    rcases Classical.em (k_ok r0 most p m rr) with ok | ok
    · have eF : F rr b = k_A (q_pr r0 T) (k_ok r0 most) R k (rg_st p m rr) (m + 1) b := by
        have : F rr b = k_i (k_ok r0 most p m rr) (k_A (q_pr r0 T) (k_ok r0 most) R k (rg_st p m rr) (m + 1) b) b := by rw [hF]
        rw [this, ki_y ok]
      have hplt := pr_lt hq (show m + 1 ≤ M by omega) (rg_st p m rr)
      rcases Classical.em (k_w b (q_pr r0 T (rg_st p m rr) (m + 1))) with kw | kw
      · obtain ⟨J', N, p1, p2, p3⟩ := stay (by rw [eF]; exact kA_w kw k)
        refine ⟨J', N + 1, p1, p2, fun f h => ?_⟩
        rw [show f + (N + 1) = f + N + 1 by omega]
        have p3' := p3 f h
        obtain ⟨c, x, eb, hc⟩ := kw
        have hc62 := (hJH.2.1 c x eb).1
        have el : k_l b = lN c := by rw [eb]; rfl
        rw [el] at p3' ⊢
        refine enter _ _ (fun _ => ⟨fun q => ?_, fun _ => ?_⟩) (fun w => absurd ok w)
        · rw [lg_cmp_lt, show (0 : Int64) = lN 0 from rfl, pk_lLT (by omega) (by omega)] at q
          omega
        · refine k_prJ hR hJH.1 (by omega) hpH _ ⟨fun q => ?_, fun _ => p3'⟩
          rw [lg_cmp_lt, pk_lLT (by omega) (by omega)] at q
          omega
      · obtain ⟨H1, hH1⟩ : ∃ H1, H1 = (if k = 0 then H else jm_u H 36 (upd (H 36) (m + 1) (-1))) := ⟨_, rfl⟩
        have h1k : ∀ x, x ≠ 36 → H1 x = H x := fun x hx => by
          rw [hH1]
          split
          · rfl
          · exact jm_un _ _ hx
        have h136 : ∀ j, j < m + 1 → H1 36 j = H 36 j := fun j hj => by
          rw [hH1]
          split
          · rfl
          · rw [jm_uk, pk_un (by omega)]
        obtain ⟨J1, N1, u1, u2, u3⟩ := hU (m + 1) (rg_st p m rr) b H1 (by omega) (fun j hj => by rw [h136 j hj]; exact hpH j hj) ⟨fun x hx => by rw [h1k x (by omega)]; exact hJH.1 x hx, fun c x e => by rw [h1k 35 (by decide)]; exact hJH.2.1 c x e, fun e => by rw [h1k 35 (by decide)]; exact hJH.2.2 e⟩ kw (fun hlt => by
          rw [hH1, if_neg (by omega), jm_uk, pk_us]; decide)
        rw [← eF] at u1 u3
        have ho1 : ∀ j, j < m → p j < 6 ∧ J1 36 j = nI (p j) := fun j hj => ⟨(hp j hj).1, by rw [u2 j (by omega), st_n _ (by omega)]⟩
        have hv1 : J1 36 m + 1 = nI (rr + 1) := by rw [u2 m (by omega), st_s, nI_1]
        have rest := k_T hR K Post hU hm b0 d (rr + 1) J1 (by omega) ho1 hv1 (by rw [← hF, eFs]; exact u1)
        rw [← hF, eFs] at rest
        obtain ⟨J', N, p1, p2, p3⟩ := rest
        refine ⟨J', N + N1 + 1, p1, p2, fun f h => ?_⟩
        rw [show f + (N + N1 + 1) = f + N + N1 + 1 by omega]
        have hu := u3 (f + N) (by rw [pk_m1]; exact p3 f h)
        have push : (((H 1 0) ≤ nI (m + 1)) → (vr_cut_52 (nI R) (nI most) K K Post (f + N + N1) (k_l b) (nI (m + 1)) H)) ∧ ((¬ (H 1 0) ≤ nI (m + 1)) → ((vp_in (nI (m + 1)) 10) ∧ (∀ g16 : jm_M, g16 = jm_a H 36 (nI (m + 1)) (-1) → (vr_cut_52 (nI R) (nI most) K K Post (f + N + N1) (k_l b) (nI (m + 1)) g16)))) := by
          rw [h1H, nI_leI (by omega) (by omega)]
          refine ⟨fun q => ?_, fun q => ⟨vp_in_nI (by omega) (by omega), nm_e ?_⟩⟩
          · rw [hH1, if_pos (by omega)] at hu; exact hu
          · rw [hH1, if_neg (by omega)] at hu
            rw [jm_as _ _ _ (by omega)]; exact hu
        refine enter _ _ (fun _ => ⟨fun _ => push, fun q => ?_⟩) (fun w => absurd ok w)
        refine k_prJ hR hJH.1 (by omega) hpH _ ⟨fun _ => push, fun q2 => ?_⟩
        cases eb : b with
        | none => rw [eb] at q; exact absurd (show lg_cmp (k_l none) 0 < 0 by decide) q
        | some cx =>
          obtain ⟨c, x⟩ := cx
          have hc62 := (hJH.2.1 c x eb).1
          rw [eb] at q2
          have el : k_l (some (c, x)) = lN c := rfl
          rw [el, lg_cmp_lt, pk_lLT (by omega) (by omega)] at q2
          exact absurd ⟨c, x, eb, by omega⟩ kw
    · have e : F rr b = b := by
        have : F rr b = k_i (k_ok r0 most p m rr) (k_A (q_pr r0 T) (k_ok r0 most) R k (rg_st p m rr) (m + 1) b) b := by rw [hF]
        rw [this, ki_n ok]
      obtain ⟨J', N, p1, p2, p3⟩ := stay e
      refine ⟨J', N + 1, p1, p2, fun f h => ?_⟩
      rw [show f + (N + 1) = f + N + 1 by omega]
      exact enter _ _ (fun w => absurd w ok) (fun _ => p3 f h)
theorem k_Uall {M T R most : Nat} {r0 : jm_M} (hR : k_R M T R most r0) (K Post : Int64 → jm_M → Prop) : ∀ k, k_U M T R most r0 K Post k
  | 0 => k_U0 hR K Post
  | k + 1 => by
    intro m p b J hm hp hJ hw hv
    have eA : k_A (q_pr r0 T) (k_ok r0 most) R (k + 1) p m b = k_f (fun x b => k_i (k_ok r0 most p m x) (k_A (q_pr r0 T) (k_ok r0 most) R k (rg_st p m x) (m + 1) b) b) R b := ki_n hw
    rw [eA]
    exact k_T hR K Post (k_Uall hR K Post k) hm b R 0 J (by omega) hp (hv (by omega)) hJ
