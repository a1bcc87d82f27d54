def o_tg (z : Nat) (ce : Nat → Nat) (st : Nat → Prop) (o : Nat → Nat) (n m come : Nat) (ok : Prop) (tg : Nat → Nat) : Prop := ∀ j, tg j = if j < n then o j else o_gp z ce st m come ok (j - n)
def o_D (z : Nat) (nu ce : Nat → Nat) (st : Nat → Prop) (x1 : Int32) (r0 : jm_M) (m : Nat) : Prop := ∀ (n : Nat) (o : Nat → Nat) (J : jm_M) (a b : Nat) (ok : Prop) (tg : Nat → Nat), n + m = z → (∀ j, j < n → o j < z ∧ J 53 j = nI (o j)) → (∀ j, j < n → o_cn ce (o j) (o_mk o j)) → (ok ↔ ∀ j, j < n → st (o_mk o j)) → o_J r0 J a b → b + oB z ce st m (o_mk o n) ok < 2 ^ 31 → (n < z → J 53 n + 1 = nI 0) → o_tg z ce st o n m (o_mk o n) ok tg → ∃ (J' : jm_M) (N : Nat), o_J r0 J' (a + oX z ce (fun _ => True) m (o_mk o n)) (b + oB z ce st m (o_mk o n) ok) ∧ (∀ j, j < n → J' 53 j = nI (o j)) ∧ o_w z nu tg (J 54) (J' 54) b (oB z ce st m (o_mk o n) ok) ∧ ∀ f Post, vr_shuffle_23 x1 Post f (nI n + (-1)) J' → vr_shuffle_23 x1 Post (f + N) (nI n) J
theorem o_D0 {z : Nat} {nu ce : Nat → Nat} {st : Nat → Prop} {x1 : Int32} {r0 : jm_M} (hR : o_R z nu ce r0) (hbr : o_br z ce st x1 r0) : o_D z nu ce st x1 r0 0 := by
  intro n o J a b ok tg hn ho hc hok hJ hlt _ htg
  obtain rfl : n = z := by omega
  obtain ⟨hz, e51, hrow⟩ := id hR
  obtain ⟨j1, j2, j3⟩ := hJ
  have f51 : J 51 0 = nI n := by rw [j1 51 (by decide) (by decide)]; exact e51
  have htg2 : ∀ j, j < n → tg j = o j := fun j hj => by rw [htg j, if_pos hj]
  have g13 : jm_s J 55 (J 55 0 + 1) = jm_s J 55 (nI (a + 1)) := by rw [j2, nI_1]
  have hall : (∀ j, j ≤ n → st (o_mk o j)) ↔ (ok ∧ st (o_mk o n)) := by
    rw [hok]
    refine ⟨fun w => ⟨fun j hj => w j (by omega), w n (Nat.le_refl n)⟩, fun w j hj => ?_⟩
    by_cases e : j = n
    · rw [e]; exact w.2
    · exact w.1 j (by omega)
  have eW : oX n ce (fun _ => True) 0 (o_mk o n) = 1 := oc_y trivial
  have hJ1 : ∀ k, k ≠ 13 → (k < 53 ∨ 56 < k) → (jm_s J 55 (nI (a + 1))) k = r0 k := fun k h1 h2 => by rw [js_un _ _ (by omega)]; exact j1 k h1 h2
  have enter : ∀ f Post, ((x1 < 0 → vr_shuffle_23 x1 Post f (nI n + (-1)) (jm_s J 55 (nI (a + 1)))) ∧ (¬ x1 < 0 → vr_breaks x1 (jm_s J 55 (nI (a + 1))) (fun (r15 : Int32) (g16 : jm_M) => ((r15 = 0) → (vr_shuffle_23 x1 Post f (nI n + (-1)) g16)) ∧ ((¬ r15 = 0) → (∃ n23 : Nat, vr_shuffle_59 x1 (nI n) (fun (g21 : jm_M) => ∀ g22 : jm_M, g22 = jm_s g21 56 ((g21 56 0) + 1) → (vr_shuffle_23 x1 Post f (nI n + (-1)) g22)) Post n23 0 g16))))) → vr_shuffle_23 x1 Post (f + 1) (nI n) J := by
    intro f Post h
    unfold vr_shuffle_23
    rw [f51, g13]
    exact ⟨fun q => absurd q (nI_pos (by omega)), fun _ => ⟨fun q => absurd rfl q, fun _ => nm_e h⟩⟩
  rcases hbr with ⟨b1, b2⟩ | ⟨b1, b2⟩
  · have eB : oB n ce st 0 (o_mk o n) ok = 0 := oc_y (hall.mp (fun j _ => b2 _))
    refine ⟨jm_s J 55 (nI (a + 1)), 1, ⟨hJ1, by rw [js_k, eW], by rw [js_un _ _ (by decide), eB, Nat.add_zero]; exact j3⟩, fun j hj => by rw [js_un _ _ (by decide)]; exact (ho j hj).2, ⟨fun _ => js_un _ _ (by decide), fun _ w => absurd eB w⟩, fun f Post h => enter f Post ⟨fun _ => h, fun q => absurd b1 q⟩⟩
  · obtain ⟨x, w', x01, xiff, hx⟩ := b2 o (jm_s J 55 (nI (a + 1))) hJ1 (fun j hj => ⟨(ho j hj).1, by rw [js_un _ _ (by decide)]; exact (ho j hj).2⟩) hc
    obtain ⟨G, hG⟩ : ∃ G, G = jm_u (jm_s J 55 (nI (a + 1))) 13 w' := ⟨_, rfl⟩
    have gk : ∀ k, k ≠ 13 → k ≠ 55 → G k = J k := fun k h1 h2 => by rw [hG, jm_un _ _ h1, js_un _ _ h2]
    have g55 : G 55 0 = nI (a + 1) := by rw [hG, jm_un _ _ (by decide), js_k]
    have hG1 : ∀ k, k ≠ 13 → (k < 53 ∨ 56 < k) → G k = r0 k := fun k h1 h2 => by rw [gk k h1 (by omega)]; exact j1 k h1 h2
    rw [← hG] at hx
    have hRG : o_R n nu ce G := ⟨hz, by rw [hG1 51 (by decide) (by decide)]; exact e51, fun i hi => by rw [hG1 52 (by decide) (by decide), hG1 41 (by decide) (by decide)]; exact hrow i hi⟩
    have hoG : ∀ j, j < n → o j < n ∧ G 53 j = nI (o j) := fun j hj => ⟨(ho j hj).1, by rw [gk 53 (by decide) (by decide)]; exact (ho j hj).2⟩
    have g56 : G 56 0 = nI b := by rw [gk 56 (by decide) (by decide)]; exact j3
    rcases x01 with rfl | rfl
    · have eB : oB n ce st 0 (o_mk o n) ok = 0 := oc_y (hall.mp (xiff.mp rfl))
      exact ⟨G, 1, ⟨hG1, by rw [g55, eW], by rw [eB, Nat.add_zero]; exact g56⟩, fun j hj => (hoG j hj).2, ⟨fun _ => gk 54 (by decide) (by decide), fun _ w => absurd eB w⟩, fun f Post h => enter f Post ⟨fun q => absurd q b1, fun _ => hx _ ⟨fun _ => h, fun q => absurd rfl q⟩⟩⟩
    · have eB : oB n ce st 0 (o_mk o n) ok = 1 := oc_n (fun u => absurd (xiff.mpr (hall.mpr u)) (by decide))
      rw [eB] at hlt
      by_cases hb : b = 0
      · obtain ⟨x54, s1, s2⟩ := sh59 (x1 := x1) (x2 := nI n) hRG hoG (by rw [g56, hb]; rfl) n 0 (G 54) (by omega) (fun j hj => absurd hj (Nat.not_lt_zero j))
        rw [jm_u0] at s2
        have e56 : (jm_u G 54 x54) 56 0 + 1 = nI (b + 1) := by rw [jm_un _ _ (by decide), g56, nI_1]
        refine ⟨jm_s (jm_u G 54 x54) 56 (nI (b + 1)), 1, ⟨fun k h1 h2 => ?_, ?_, ?_⟩, fun j hj => ?_, ⟨fun w => ?_, fun _ _ j hj => ?_⟩, fun f Post h => enter f Post ⟨fun q => absurd q b1, fun _ => hx _ ⟨fun q => absurd q (by decide), fun _ => ⟨n + 1, s2 _ Post (fun g22 h22 => ?_)⟩⟩⟩⟩
        · rw [js_un _ _ (by omega), jm_un _ _ (by omega)]; exact hG1 k h1 h2
        · rw [js_un _ _ (by decide), jm_un _ _ (by decide), g55, eW]
        · rw [js_k, eB]
        · rw [js_un _ _ (by decide), jm_un _ _ (by decide)]; exact (hoG j hj).2
        · rcases w with w | w
          · exact absurd hb w
          · rw [eB] at w; exact absurd w (by decide)
        · rw [js_un _ _ (by decide), jm_uk, s1 j hj, htg2 j hj]
        · rw [h22, e56]; exact h
      · have nb : ¬ nI b = 0 := nI_ne0 (by omega) (by omega)
        refine ⟨jm_s G 56 (nI (b + 1)), 1, ⟨fun k h1 h2 => ?_, ?_, ?_⟩, fun j hj => ?_, ⟨fun w => ?_, fun w => absurd w hb⟩, fun f Post h => enter f Post ⟨fun q => absurd q b1, fun _ => hx _ ⟨fun q => absurd q (by decide), fun _ => ⟨1, ?_⟩⟩⟩⟩
        · rw [js_un _ _ (by omega)]; exact hG1 k h1 h2
        · rw [js_un _ _ (by decide), g55, eW]
        · rw [js_k, eB]
        · rw [js_un _ _ (by decide)]; exact (hoG j hj).2
        · rw [js_un _ _ (by decide)]; exact gk 54 (by decide) (by decide)
        · have fin : ∀ g22 : jm_M, g22 = jm_s G 56 ((G 56 0) + 1) → vr_shuffle_23 x1 Post f (nI n + (-1)) g22 := fun g22 h22 => by
            rw [h22, g56, nI_1]; exact h
          unfold vr_shuffle_59
          exact ⟨fun _ => fin, fun _ => ⟨fun _ => fin, fun q => absurd (g56.symm.trans q) nb⟩⟩
theorem o_T {z m : Nat} {nu ce : Nat → Nat} {st : Nat → Prop} {x1 : Int32} {r0 : jm_M} (hR : o_R z nu ce r0) (hD : o_D z nu ce st x1 r0 m) {n : Nat} {o : Nat → Nat} {ok : Prop} {tg : Nat → Nat} (hn : n + (m + 1) = z) (hc : ∀ j, j < n → o_cn ce (o j) (o_mk o j)) (hok : ok ↔ ∀ j, j < n → st (o_mk o j)) (htg : o_tg z ce st o n (m + 1) (o_mk o n) ok tg) {a b : Nat} (hlt : b + oB z ce st (m + 1) (o_mk o n) ok < 2 ^ 31) (x0 : Nat → Int32) : ∀ (d r : Nat) (J : jm_M), r + d = z → (∀ j, j < n → o j < z ∧ J 53 j = nI (o j)) → J 53 n + 1 = nI r → o_J r0 J (a + sS (fun i => oc (o_cn ce i (o_mk o n)) (oX z ce (fun _ => True) m (o_mk o n ||| 2 ^ i)) 0) r) (b + sS (o_fB z ce st m (o_mk o n) ok) r) → o_w z nu tg x0 (J 54) b (sS (o_fB z ce st m (o_mk o n) ok) r) → ∃ (J' : jm_M) (N : Nat), o_J r0 J' (a + sS (fun i => oc (o_cn ce i (o_mk o n)) (oX z ce (fun _ => True) m (o_mk o n ||| 2 ^ i)) 0) z) (b + sS (o_fB z ce st m (o_mk o n) ok) z) ∧ (∀ j, j < n → J' 53 j = nI (o j)) ∧ o_w z nu tg x0 (J' 54) b (sS (o_fB z ce st m (o_mk o n) ok) z) ∧ ∀ f Post, vr_shuffle_23 x1 Post f (nI n + (-1)) J' → vr_shuffle_23 x1 Post (f + N) (nI n) J
  | 0, r, J, hr, ho, hv, hJ, hw => by
    obtain rfl : r = z := by omega
    obtain ⟨hz, e51, hrow⟩ := id hR
    have f51 : J 51 0 = nI r := by rw [hJ.1 51 (by decide) (by decide)]; exact e51
    have g8 : jm_a J 53 (nI n) (J 53 (nI n).toNatClampNeg + 1) = jm_u J 53 (upd (J 53) n (nI r)) := by rw [tn_nI (by omega), jm_as _ _ _ (by omega), hv]
    refine ⟨jm_u J 53 (upd (J 53) n (nI r)), 1, ⟨fun k h1 h2 => by rw [jm_un _ _ (by omega)]; exact hJ.1 k h1 h2, by rw [jm_un _ _ (by decide)]; exact hJ.2.1, by rw [jm_un _ _ (by decide)]; exact hJ.2.2⟩, fun j hj => by rw [jm_uk, pk_un (by omega)]; exact (ho j hj).2, by rw [jm_un _ _ (by decide)]; exact hw, fun f Post h => ?_⟩
    unfold vr_shuffle_23
    rw [g8, f51]
    refine ⟨fun q => absurd q (nI_pos (by omega)), fun _ => ⟨fun _ => ⟨vp_in_nI (by omega) (by omega), vp_in_nI (by omega) (by omega), nm_e ⟨vp_in_nI (by omega) (by omega), fun q => ?_, fun _ => h⟩⟩, fun q => absurd ((nI_eq (by omega) (by omega)).mp q) (by omega)⟩⟩
    exact absurd (by rw [jm_uk, tn_nI (by omega), pk_us, jm_un _ _ (by decide)]; exact f51.symm) q
  | d + 1, r, J, hr, ho, hv, hJ, hw => by
    obtain ⟨hz, e51, hrow⟩ := id hR
    have hrz : r < z := by omega
    have f51 : J 51 0 = nI z := by rw [hJ.1 51 (by decide) (by decide)]; exact e51
    obtain ⟨G, hG⟩ : ∃ G, G = jm_u J 53 (upd (J 53) n (nI r)) := ⟨_, rfl⟩
    have g8 : jm_a J 53 (nI n) (J 53 (nI n).toNatClampNeg + 1) = G := by rw [hG, tn_nI (by omega), jm_as _ _ _ (by omega), hv]
    have gk : ∀ k, k ≠ 53 → G k = J k := fun k h => by rw [hG]; exact jm_un _ _ h
    have g53 : G 53 = upd (J 53) n (nI r) := by rw [hG]; exact jm_uk _ _ _
    have hoG : ∀ j, j < n → o j < z ∧ G 53 j = nI (o j) := fun j hj => ⟨(ho j hj).1, by rw [g53, pk_un (by omega)]; exact (ho j hj).2⟩
    have hRG : o_R z nu ce G := ⟨hz, by rw [gk 51 (by decide)]; exact f51, fun i hi => by
      rw [gk 52 (by decide), gk 41 (by decide), hJ.1 52 (by decide) (by decide), hJ.1 41 (by decide) (by decide)]; exact hrow i hi⟩
    have erG : G 53 n = nI r := by rw [g53, pk_us]
    have eWs : sS (fun i => oc (o_cn ce i (o_mk o n)) (oX z ce (fun _ => True) m (o_mk o n ||| 2 ^ i)) 0) (r + 1) = sS (fun i => oc (o_cn ce i (o_mk o n)) (oX z ce (fun _ => True) m (o_mk o n ||| 2 ^ i)) 0) r + oc (o_cn ce r (o_mk o n)) (oX z ce (fun _ => True) m (o_mk o n ||| 2 ^ r)) 0 := rfl
    have eBs : sS (o_fB z ce st m (o_mk o n) ok) (r + 1) = sS (o_fB z ce st m (o_mk o n) ok) r + o_fB z ce st m (o_mk o n) ok r := rfl
    have hle : sS (o_fB z ce st m (o_mk o n) ok) (r + 1) ≤ sS (o_fB z ce st m (o_mk o n) ok) z := sS_ge z (r + 1) (by omega)
    have hlt2 : b + sS (o_fB z ce st m (o_mk o n) ok) z < 2 ^ 31 := hlt
    have enter : ∀ f Post, (o_cn ce r (o_mk o n) → vr_shuffle_23 x1 Post f (nI (n + 1)) (jm_u G 53 (upd (G 53) (n + 1) (-1)))) → (¬ o_cn ce r (o_mk o n) → vr_shuffle_23 x1 Post f (nI n) G) → vr_shuffle_23 x1 Post (f + 1) (nI n) J := by
      intro f Post h1 h0
      unfold vr_shuffle_23
      rw [g8, f51]
      refine ⟨fun q => absurd q (nI_pos (by omega)), fun _ => ⟨fun _ => ⟨vp_in_nI (by omega) (by omega), vp_in_nI (by omega) (by omega), nm_e ⟨vp_in_nI (by omega) (by omega), fun _ => ?_, fun q => ?_⟩⟩, fun q => absurd ((nI_eq (by omega) (by omega)).mp q) (by omega)⟩⟩
      · refine mc_of hRG (by omega) hoG hrz erG _ (fun w => ⟨fun _ => ⟨?_, ?_⟩, fun q => absurd q (by decide)⟩) (fun w => ⟨fun q => absurd rfl q, fun _ => h0 w⟩)
        · rw [nI_1]; exact vp_in_nI (by omega) (by omega)
        · rw [nI_1]
          refine nm_e ?_
          rw [jm_as _ _ _ (by omega)]
          exact h1 w
      · rw [tn_nI (by omega), erG, gk 51 (by decide), f51] at q
        have := (nI_eq (by omega) (by omega)).mp q
        omega
    rcases Classical.em (o_cn ce r (o_mk o n)) with cn | cn
    · have efb : o_fB z ce st m (o_mk o n) ok r = oB z ce st m (o_mk o n ||| 2 ^ r) (ok ∧ st (o_mk o n)) := oc_y cn
      have emk : ∀ j, j ≤ n → o_mk (rg_st o n r) j = o_mk o j := fun j hj => mk_ext j (fun i hi => st_n _ (by omega))
      have emk1 : o_mk (rg_st o n r) (n + 1) = o_mk o n ||| 2 ^ r := by
        show o_mk (rg_st o n r) n ||| 2 ^ (rg_st o n r n) = _
        rw [emk n (Nat.le_refl n), st_s]
      have hd := hD (n + 1) (rg_st o n r) (jm_u G 53 (upd (G 53) (n + 1) (-1))) (a + sS (fun i => oc (o_cn ce i (o_mk o n)) (oX z ce (fun _ => True) m (o_mk o n ||| 2 ^ i)) 0) r) (b + sS (o_fB z ce st m (o_mk o n) ok) r) (ok ∧ st (o_mk o n)) (fun j => if j < n + 1 then rg_st o n r j else o_gp z ce st m (o_mk o n ||| 2 ^ r) (ok ∧ st (o_mk o n)) (j - (n + 1))) (by omega) (fun j hj => ?_) (fun j hj => ?_) ?_ ⟨fun k h1 h2 => ?_, ?_, ?_⟩ ?_ (fun hlz => ?_) (fun j => ?_)
      · rw [emk1, ← efb] at hd
        obtain ⟨J1, N1, q1, q2, q3, q4⟩ := hd
        have hv1 : J1 53 n + 1 = nI (r + 1) := by rw [q2 n (Nat.lt_succ_self n), st_s, nI_1]
        have ho1 : ∀ j, j < n → o j < z ∧ J1 53 j = nI (o j) := fun j hj => ⟨(ho j hj).1, by rw [q2 j (by omega), st_n _ (by omega)]⟩
        have x54 : (jm_u G 53 (upd (G 53) (n + 1) (-1))) 54 = J 54 := by rw [jm_un _ _ (by decide), gk 54 (by decide)]
        rw [x54] at q3
        have hw1 : o_w z nu tg x0 (J1 54) b (sS (o_fB z ce st m (o_mk o n) ok) (r + 1)) := by
          rw [eBs]
          refine ⟨fun w => ?_, fun w1 w2 => ?_⟩
          · rw [q3.1 (by omega)]; exact hw.1 (by omega)
          · by_cases u : sS (o_fB z ce st m (o_mk o n) ok) r = 0
            · have u2 : o_fB z ce st m (o_mk o n) ok r ≠ 0 := by omega
              have hls := ls_eq u u2 z hrz
              intro j hj
              rw [q3.2 (by omega) u2 j hj]
              congr 2
              show (if j < n + 1 then rg_st o n r j else o_gp z ce st m (o_mk o n ||| 2 ^ r) (ok ∧ st (o_mk o n)) (j - (n + 1))) = tg j
              rw [htg j]
              by_cases e1 : j < n
              · rw [if_pos (by omega), if_pos e1, st_n _ (by omega)]
              · rw [if_neg e1]
                by_cases e2 : j = n
                · rw [if_pos (by omega), e2, st_s, Nat.sub_self]
                  exact hls.symm
                · rw [if_neg (by omega)]
                  obtain ⟨k, hk⟩ : ∃ k, j - n = k + 1 := ⟨j - n - 1, by omega⟩
                  rw [hk, show j - (n + 1) = k by omega]
                  show _ = o_gp z ce st m (o_mk o n ||| 2 ^ o_ls (o_fB z ce st m (o_mk o n) ok) z) (ok ∧ st (o_mk o n)) k
                  rw [hls]
            · rw [q3.1 (Or.inl (by omega))]; exact hw.2 w1 u
        have eo1 : o_J r0 J1 (a + sS (fun i => oc (o_cn ce i (o_mk o n)) (oX z ce (fun _ => True) m (o_mk o n ||| 2 ^ i)) 0) (r + 1)) (b + sS (o_fB z ce st m (o_mk o n) ok) (r + 1)) := by
          rw [eWs, eBs, oc_y cn, ← Nat.add_assoc, ← Nat.add_assoc]; exact q1
        obtain ⟨J', N, p1, p2, p3, p4⟩ := o_T hR hD hn hc hok htg hlt x0 d (r + 1) J1 (by omega) ho1 hv1 eo1 hw1
        refine ⟨J', N + N1 + 1, p1, p2, p3, fun f Post h => ?_⟩
        rw [show f + (N + N1 + 1) = f + N + N1 + 1 by omega]
        refine enter _ Post (fun _ => q4 (f + N) Post ?_) (fun w => absurd cn w)
        rw [pk_m1]
        exact p4 f Post h
      · by_cases e : j = n
        · rw [e, st_s, jm_uk, pk_un (by omega)]; exact ⟨hrz, erG⟩
        · rw [st_n _ e, jm_uk, pk_un (by omega)]; exact hoG j (by omega)
      · rw [emk j (by omega)]
        by_cases e : j = n
        · rw [e, st_s]; exact cn
        · rw [st_n _ e]; exact hc j (by omega)
      · rw [hok]
        refine ⟨fun w j hj => ?_, fun w => ⟨fun j hj => ?_, ?_⟩⟩
        · rw [emk j (by omega)]
          by_cases e : j = n
          · rw [e]; exact w.2
          · exact w.1 j (by omega)
        · have := w j (by omega); rw [emk j (by omega)] at this; exact this
        · have := w n (by omega); rw [emk n (Nat.le_refl n)] at this; exact this
      · rw [jm_un _ _ (by omega), gk k (by omega)]; exact hJ.1 k h1 h2
      · rw [jm_un _ _ (by decide), gk 55 (by decide)]; exact hJ.2.1
      · rw [jm_un _ _ (by decide), gk 56 (by decide)]; exact hJ.2.2
      · rw [emk1, ← efb]; omega
      · rw [jm_uk, pk_us]; decide
      · rw [emk1]
    · have efb : o_fB z ce st m (o_mk o n) ok r = 0 := oc_n cn
      obtain ⟨J', N, p1, p2, p3, p4⟩ := o_T hR hD hn hc hok htg hlt x0 d (r + 1) G (by omega) hoG (by rw [erG, nI_1]) (by
        rw [eWs, eBs, oc_n cn, efb, Nat.add_zero, Nat.add_zero]
        exact ⟨fun k h1 h2 => by rw [gk k (by omega)]; exact hJ.1 k h1 h2, by rw [gk 55 (by decide)]; exact hJ.2.1, by rw [gk 56 (by decide)]; exact hJ.2.2⟩) (by
        rw [eBs, efb, Nat.add_zero, gk 54 (by decide)]; exact hw)
      refine ⟨J', N + 1, p1, p2, p3, fun f Post h => ?_⟩
      rw [show f + (N + 1) = f + N + 1 by omega]
      exact enter _ Post (fun w => absurd w cn) (fun _ => p4 f Post h)
theorem o_all {z : Nat} {nu ce : Nat → Nat} {st : Nat → Prop} {x1 : Int32} {r0 : jm_M} (hR : o_R z nu ce r0) (hbr : o_br z ce st x1 r0) : ∀ m, o_D z nu ce st x1 r0 m
  | 0 => o_D0 hR hbr
  | m + 1 => by
    intro n o J a b ok tg hn ho hc hok hJ hlt hv htg
    obtain ⟨J', N, p1, p2, p3, p4⟩ := o_T hR (o_all hR hbr m) hn hc hok htg (a := a) hlt (J 54) z 0 J (by omega) ho (hv (by omega)) hJ ⟨fun _ => rfl, fun _ w => absurd rfl w⟩
    refine ⟨J', N, ?_, p2, p3, p4⟩
    rw [oW_step]
    exact p1
