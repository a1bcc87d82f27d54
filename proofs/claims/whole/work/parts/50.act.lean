/-- one line, done by both -/
def b_stepped (T N k : Nat) (h : Nat → Int32) (D : Nat) (gd : cm_D) (gj : cm_J) (c0 c r0 r : jm_M) : Prop := (∃ c' r' : jm_M, b_AK c' ∧ (∀ P : Int32 → cm_M → Prop, P 0 (b_c gd gj c0 c') → vc_X0_doNextLine (b_c gd gj c0 c) P) ∧ (∀ n2 kk (Post : Int32 → jm_M → Prop), Post 0 (jm_o r0 r' 13 22) → vr_works_123 kk Post (n2 + 1) (nI D) (nI k) (jm_o r0 r 13 22))) ∨ (∃ (W' Q' : List Nat) (D' : Nat) (c' r' : jm_M), b_M T N h W' Q' D' (k + 1) c' r' ∧ (∀ P : Int32 → cm_M → Prop, P 1 (b_c gd gj c0 c') → vc_X0_doNextLine (b_c gd gj c0 c) P) ∧ (∀ n2 kk (Post : Int32 → jm_M → Prop), vr_works_123 kk Post n2 (nI D') (nI (k + 1)) (jm_o r0 r' 13 22) → vr_works_123 kk Post (n2 + 1) (nI D) (nI k) (jm_o r0 r 13 22)))
set_option maxRecDepth 8000 in
theorem step_act {M T N i n z D1 k : Nat} {h : Nat → Int32} {W Q : List Nat} {gd : cm_D} {gj : cm_J} {c0 c r0 r : jm_M} (hM : M ≤ 10) (hT16 : T ≤ 16) (hN : N ≤ 40) (hX : b_X M T N r0) (e6 : c0 6 = r0 6) (e8 : c0 8 = r0 8) (e9 : c0 9 = r0 9) (e10 : c0 10 = r0 10) (hk : k < 300) (hm : b_M T N h W Q (D1 + 1) k c r) (hi : i < N) (ez : r0 7 i = nI z) (hz : z ≤ 16) (hn : n < z) (c19 : c 19 D1 = nI i) (r20 : r 20 D1 = nI i) (c20 : c 20 D1 = nI n) (r21 : r 21 D1 = nI n) : b_stepped T N k h (D1 + 1) gd gj c0 c r0 r := by
  obtain ⟨m1, m2, m3, m4, m5⟩ := id hm
  have hD : D1 < 8 := m4.1
  have hl : b_line T N (r0 8 (16 * i + n)) (r0 9 (16 * i + n)) (r0 10 (16 * i + n)) := by
    obtain ⟨z2, hz2, ez2, hlz⟩ := hX.2.2.2.1 i hi
    have : z2 = z := by rw [ez] at ez2; exact ((nI_eq (by omega) (by omega)).mp ez2).symm
    subst this
    exact hlz n hn
  obtain ⟨m, hmM, em⟩ := hX.2.2.1 i hi
  have tm : (nI m).toNatClampNeg = m := tn_nI (by omega)
  have LC := fun P => @line_c M T N i n z D1 Q.length gd gj c0 c r0 hM hT16 hN hX e6 e8 e9 e10 hi hz ez hn hl hD m4.2.1 c19 c20 (by have := m3.1; omega) m3.2.1 P
  have LR := fun kk f Post => @line_r M T N i n z D1 k r r0 hM hT16 hN hi hz ez hn hD r20 r21 hk kk f Post
  rw [em, tm] at LC
  rw [em] at LR
  obtain ⟨c1, hc1⟩ : ∃ c1, c1 = jm_u c 20 (upd (c 20) D1 (nI (n + 1))) := ⟨_, rfl⟩
  obtain ⟨r1, hr1⟩ : ∃ r1, r1 = jm_u r 21 (upd (r 21) D1 (nI (n + 1))) := ⟨_, rfl⟩
  rw [jm_as _ _ _ (by omega), ← hc1] at LC
  simp only [jm_as r 21 (nI (n + 1)) (show D1 < 2 ^ 31 by omega), ← hr1] at LR
  have cc : c1 20 = upd (c 20) D1 (nI (n + 1)) := by rw [hc1]; rfl
  have rr : r1 21 = upd (r 21) D1 (nI (n + 1)) := by rw [hr1]; rfl
  have cx : ∀ k, k ≠ 20 → c1 k = c k := fun k hk => by rw [hc1]; exact jm_un _ _ hk
  have rx : ∀ k, k ≠ 21 → r1 k = r k := fun k hk => by rw [hr1]; exact jm_un _ _ hk
  have M1 : b_m1 h W c1 r1 := by unfold b_m1; rw [cx 15 (by decide), rx 13 (by decide)]; exact m1
  have M2 : b_m2 T W c1 r1 := by unfold b_m2; rw [cx 21 (by decide), cx 17 (by decide), cx 16 (by decide), rx 17 (by decide), rx 18 (by decide), rx 19 (by decide)]; exact m2
  have M3 : b_m3 k Q c1 r1 := by unfold b_m3; rw [cx 22 (by decide), cx 18 (by decide), rx 14 (by decide), rx 15 (by decide), rx 16 (by decide)]; exact m3
  have M4 : b_m4 N (D1 + 1) c1 r1 := m4_next m4 (by omega) (cx 23 (by decide)) (cx 19 (by decide)) (rx 20 (by decide)) cc rr
  have M5 : c1 24 0 = r1 22 0 := by rw [cx 24 (by decide), rx 22 (by decide)]; exact m5
  have tD : (nI D1).toNatClampNeg = D1 := tn_nI (by omega)
  -- lines without a tie that go on
  rcases hl with eo | eo | ⟨eo, t, j, q1, q2, ex, ey⟩ | ⟨eo, p, q1, ex⟩ | ⟨eo, s, q1, q2, ex⟩ | eo
  · -- set
    refine Or.inr ⟨W, Q, D1 + 1, jm_s c1 24 (r0 9 (16 * i + n)), jm_s r1 22 (r0 9 (16 * i + n)), ⟨M1, M2, m3_up M3 rfl rfl rfl rfl rfl, M4, rfl⟩, fun P hp => LC P ?_, fun n2 kk Post hv => LR kk n2 Post (fun w => by rw [eo] at w; exact absurd w (by decide)) (fun w => by rw [eo] at w; exact absurd w (by decide)) (fun w => by rw [eo] at w; exact absurd w (by decide)) (fun _ _ _ => ?_)⟩
    · rw [eo, show b_tie 0 m (r0 9 (16 * i + n)).toNatClampNeg (r0 6 (r0 9 (16 * i + n)).toNatClampNeg).toNatClampNeg = none from by simp [b_tie]]
      refine swc_0 (nm_e ?_)
      rw [bc_s _ _ _ _ _ (by omega) (by omega)]; exact hp
    · rw [eo]
      refine ⟨fun w => absurd rfl w, fun _ => nm_e ?_⟩
      rw [jo_s _ _ _ (by omega) (by omega)]; exact hv
  · -- add
    refine Or.inr ⟨W, Q, D1 + 1, jm_s c1 24 (c1 24 0 + r0 9 (16 * i + n)), jm_s r1 22 (r1 22 0 + r0 9 (16 * i + n)), ⟨M1, M2, m3_up M3 rfl rfl rfl rfl rfl, M4, ?_⟩, fun P hp => LC P ?_, fun n2 kk Post hv => LR kk n2 Post (fun w => by rw [eo] at w; exact absurd w (by decide)) (fun w => by rw [eo] at w; exact absurd w (by decide)) (fun w => by rw [eo] at w; exact absurd w (by decide)) (fun _ _ _ => ?_)⟩
    · show c1 24 0 + r0 9 (16 * i + n) = r1 22 0 + r0 9 (16 * i + n); rw [M5]
    · rw [eo, show b_tie 1 m (r0 9 (16 * i + n)).toNatClampNeg (r0 6 (r0 9 (16 * i + n)).toNatClampNeg).toNatClampNeg = none from by simp [b_tie]]
      refine swc_1 (nm_e ?_)
      rw [bc_s _ _ _ _ _ (by omega) (by omega)]; exact hp
    · rw [eo]
      refine ⟨fun w => ⟨fun w => absurd rfl w, fun _ => nm_e ?_⟩, fun w => absurd w (by decide)⟩
      rw [jo_s _ _ _ (by omega) (by omega)]; exact hv
  · -- cells
    have tt : (nI t).toNatClampNeg = t := tn_nI (by omega)
    have ycell : nI t * 8 + nI j = nI (8 * t + j) := ij' (k := 8) (by omega)
    have ycell2 : (8 : Int32) * nI t + nI j = nI (8 * t + j) := ij (k := 8) (by omega)
    have y16 : (16 : Int32) * nI m + nI t = nI (16 * m + t) := ij (k := 16) (by omega)
    have tc : (nI (8 * t + j)).toNatClampNeg = 8 * t + j := tn_nI (by omega)
    have ic : vp_in (nI (8 * t + j)) 128 := vp_in_nI (by omega) (by omega)
    have t16 : (nI (16 * m + t)).toNatClampNeg = 16 * m + t := tn_nI (by omega)
    have i16 : vp_in (nI (16 * m + t)) 160 := vp_in_nI (by omega) (by omega)
    have hcell : ∀ i, i < 128 → c1 15 i = r1 13 i := fun i hi => (M1 i hi).1
    have tl : Q.length < 2 ^ 31 := by have := m3.1; omega
    rw [ex, ey, tt, ycell] at LC
    rw [ex, ey] at LR
    -- a read's tie
    have rd : b_m3 (k + 1) (Q ++ [100 + 16 * m + t]) (jm_s (jm_a c1 18 (nI Q.length) (nI (100 + 16 * m + t))) 22 (nI (Q.length + 1))) (jm_a r1 15 (nI (16 * m + t)) (r1 15 (16 * m + t) + 1)) := by
      refine m3_add M3 hk (by omega) rfl ?_ ?_ ?_ ?_
      · show upd (c1 18) (nI Q.length).toNatClampNeg _ = _; rw [tn_nI tl]
      · rw [if_neg (by omega)]; rfl
      · rw [if_pos (by omega)]
        show upd (r1 15) (nI (16 * m + t)).toNatClampNeg _ = _
        rw [t16, show 100 + 16 * m + t - 100 = 16 * m + t by omega]
      · rw [if_neg (by omega)]; rfl
    have rows : ∀ v v' : Int32, v = v' → b_M T N h W (Q ++ [100 + 16 * m + t]) (D1 + 1) (k + 1) (jm_s (jm_s (jm_a c1 18 (nI Q.length) (nI (100 + 16 * m + t))) 22 (nI (Q.length + 1))) 24 v) (jm_s (jm_a r1 15 (nI (16 * m + t)) (r1 15 (16 * m + t) + 1)) 22 v') := fun v v' e => ⟨M1, M2, rd, M4, e⟩
    have n4 : ∀ {x : Int32}, r0 8 (16 * i + n) = x → x ≠ 4 → r0 8 (16 * i + n) = 4 → False := fun e hne w => hne (by rw [← e, w])
    rcases eo with eo | eo | eo | eo
    · -- read
      refine Or.inr ⟨W, _, D1 + 1, _, _, rows (c1 15 (8 * t + j)) (r1 13 (8 * t + j)) (hcell _ (by omega)), fun P hp => LC P ?_, fun n2 kk Post hv => LR kk n2 Post (fun w => by rw [eo] at w; exact absurd w (by decide)) (fun w => by rw [eo] at w; exact absurd w (by decide)) (fun w => by rw [eo] at w; exact absurd w (by decide)) (fun _ _ _ => ?_)⟩
      · rw [eo, show b_tie 2 m t (r0 6 t).toNatClampNeg = some (100 + 16 * m + t) from by simp [b_tie]]
        refine swc_2 ⟨ic, nm_e ?_⟩
        rw [bc_s _ _ _ _ _ (by omega) (by omega), tc]; exact hp
      · rw [eo]
        unfold vr_does
        rw [ycell2, y16]
        refine ⟨fun _ => ⟨fun _ => nm_e ⟨fun _ => ⟨i16, i16, nm_e ⟨fun w => absurd rfl w, fun _ => ⟨ic, nm_e ?_⟩⟩⟩, fun w => absurd w (by decide)⟩, fun w => absurd w (by decide)⟩, fun w => absurd w (by decide)⟩
        rw [jo_a _ _ _ _ (by omega) (by omega), jo_s _ _ _ (by omega) (by omega), tc, t16]; exact hv
    · -- write
      have v15 : ∀ v, v = r1 22 0 → b_m3 (k + 1) (Q ++ [260 + 16 * m + t]) (jm_a (jm_s (jm_a c1 18 (nI Q.length) (nI (260 + 16 * m + t))) 22 (nI (Q.length + 1))) 15 (nI (8 * t + j)) v) (jm_a (jm_a r1 13 (nI (8 * t + j)) v) 16 (nI (16 * m + t)) (r1 16 (16 * m + t) + 1)) := by
        intro v hv
        refine m3_add M3 hk (by omega) rfl ?_ ?_ ?_ ?_
        · show upd (c1 18) (nI Q.length).toNatClampNeg _ = _; rw [tn_nI tl]
        · rw [if_neg (by omega)]; rfl
        · rw [if_neg (by omega)]; rfl
        · rw [if_pos (by omega)]
          show upd (r1 16) (nI (16 * m + t)).toNatClampNeg _ = _
          rw [t16, show 260 + 16 * m + t - 260 = 16 * m + t by omega]
      obtain ⟨c2, hc2⟩ : ∃ c2, c2 = jm_a (jm_s (jm_a c1 18 (nI Q.length) (nI (260 + 16 * m + t))) 22 (nI (Q.length + 1))) 15 (nI (8 * t + j)) (r1 22 0) := ⟨_, rfl⟩
      obtain ⟨r2, hr2⟩ : ∃ r2, r2 = jm_a (jm_a r1 13 (nI (8 * t + j)) (r1 22 0)) 16 (nI (16 * m + t)) (r1 16 (16 * m + t) + 1) := ⟨_, rfl⟩
      have w3 := v15 _ rfl
      rw [← hc2, ← hr2] at w3
      have f15 : c2 15 = upd (c1 15) (8 * t + j) (r1 22 0) := by rw [hc2]; show upd (c1 15) (nI (8 * t + j)).toNatClampNeg _ = _; rw [tc]
      have f13 : r2 13 = upd (r1 13) (8 * t + j) (r1 22 0) := by rw [hr2]; show upd (r1 13) (nI (8 * t + j)).toNatClampNeg _ = _; rw [tc]
      have w2 : b_m2 T W c2 r2 := by rw [hc2, hr2]; exact M2
      have w4 : b_m4 N (D1 + 1) c2 r2 := by rw [hc2, hr2]; exact M4
      have w5 : c2 24 0 = r2 22 0 := by rw [hc2, hr2]; exact M5
      obtain ⟨d1, d2, d3, d4, d5, d6⟩ := id w2
      have hwl : W.length ≤ 8 * T := nd_len (8 * T) W d1 d2
      obtain ⟨d61, d62⟩ := d6 (8 * t + j) (by omega)
      have LC2 : ∀ P : Int32 → cm_M → Prop, ((¬ c2 16 (8 * t + j) = 0 → P 1 (b_c gd gj c0 c2)) ∧ (c2 16 (8 * t + j) = 0 → ((vp_in (c2 21 0) 128) ∧ P 1 (b_c gd gj c0 (jm_s (jm_a (jm_a c2 16 (nI (8 * t + j)) 1) 17 (c2 21 0) (nI (8 * t + j))) 21 (c2 21 0 + 1)))))) → vc_X0_doNextLine (b_c gd gj c0 c) P := by
        intro P hp
        refine LC P ?_
        rw [eo, show b_tie 3 m t (r0 6 t).toNatClampNeg = some (260 + 16 * m + t) from by simp [b_tie]]
        refine swc_3 ⟨ic, nm_e ⟨ic, ?_⟩⟩
        have v24 : (b_c gd gj c0 (b_nt c1 Q.length (some (260 + 16 * m + t)))).2.2 24 0 = r1 22 0 := M5
        rw [v24, bc_a _ _ _ _ _ _ (by omega) (by omega), tc]
        show (¬ (b_c gd gj c0 (jm_a (jm_s (jm_a c1 18 (nI Q.length) (nI (260 + 16 * m + t))) 22 (nI (Q.length + 1))) 15 (nI (8 * t + j)) (r1 22 0))).2.2 16 (8 * t + j) = 0 → _) ∧ _
        rw [show b_nt c1 Q.length (some (260 + 16 * m + t)) = jm_s (jm_a c1 18 (nI Q.length) (nI (260 + 16 * m + t))) 22 (nI (Q.length + 1)) from rfl, ← hc2]
        refine ⟨hp.1, fun w => ?_⟩
        obtain ⟨p1, p2⟩ := hp.2 w
        refine ⟨ic, nm_e ?_⟩
        rw [bc_a _ _ _ _ _ _ (by omega) (by omega)]
        refine ⟨p1, nm_e (nm_e ?_)⟩
        rw [bc_a _ _ _ _ _ _ (by omega) (by omega), bc_s _ _ _ _ _ (by omega) (by omega)]
        exact p2
      have LR2 : ∀ n2 kk (Post : Int32 → jm_M → Prop), ((r2 19 (8 * t + j) = 0 → ((vp_in (r2 17 0) 128) ∧ vr_works_123 kk Post n2 (nI (D1 + 1)) (nI (k + 1)) (jm_o r0 (jm_s (jm_a (jm_a r2 19 (nI (8 * t + j)) 1) 18 (r2 17 0) (nI (8 * t + j))) 17 (r2 17 0 + 1)) 13 22))) ∧ (¬ r2 19 (8 * t + j) = 0 → vr_works_123 kk Post n2 (nI (D1 + 1)) (nI (k + 1)) (jm_o r0 r2 13 22))) → vr_works_123 kk Post (n2 + 1) (nI (D1 + 1)) (nI k) (jm_o r0 r 13 22) := by
        intro n2 kk Post hp
        refine LR kk n2 Post (fun w => by rw [eo] at w; exact absurd w (by decide)) (fun w => by rw [eo] at w; exact absurd w (by decide)) (fun w => by rw [eo] at w; exact absurd w (by decide)) (fun _ _ _ => ?_)
        rw [eo]
        unfold vr_does
        rw [ycell2, y16]
        refine ⟨fun _ => ⟨fun _ => nm_e ⟨fun w => absurd rfl w, fun _ => ⟨ic, nm_e ⟨i16, i16, nm_e ⟨ic, ?_⟩⟩⟩⟩, fun w => absurd w (by decide)⟩, fun w => absurd w (by decide)⟩
        rw [show (jm_o r0 r1 13 22) 22 0 = r1 22 0 from rfl, jo_a _ _ _ _ (by omega) (by omega), jo_a _ _ _ _ (by omega) (by omega), t16, tc]
        rw [show (jm_o r0 (jm_a r1 13 (nI (8 * t + j)) (r1 22 0)) 13 22) 16 (16 * m + t) = r1 16 (16 * m + t) from rfl, ← hr2]
        refine ⟨fun w => ?_, fun w => hp.2 w⟩
        obtain ⟨p1, p2⟩ := hp.1 w
        refine ⟨ic, nm_e ?_⟩
        rw [jo_a _ _ _ _ (by omega) (by omega)]
        refine ⟨p1, nm_e (nm_e ?_)⟩
        rw [jo_a _ _ _ _ (by omega) (by omega), jo_s _ _ _ (by omega) (by omega)]
        exact p2
      by_cases hw : 8 * t + j ∈ W
      · rw [if_pos hw] at d61 d62
        refine Or.inr ⟨W, _, D1 + 1, c2, r2, ⟨m1_put M1 hw (fun i w => w) f15 f13, w2, w3, w4, w5⟩, fun P hp => LC2 P ⟨fun _ => hp, fun w => by rw [d61] at w; exact absurd w (by decide)⟩, fun n2 kk Post hv => LR2 n2 kk Post ⟨fun w => by rw [d62] at w; exact absurd w (by decide), fun _ => hv⟩⟩
      · rw [if_neg hw] at d61 d62
        have hwl2 : W.length < 128 := by
          have := nd_len (8 * T) (W ++ [8 * t + j]) (by
            rw [List.nodup_append]
            exact ⟨d1, by simp, fun a ha b hb => by rw [List.mem_singleton] at hb; subst hb; exact fun e => hw (e ▸ ha)⟩) (fun z hz => by
            rcases List.mem_append.mp hz with q | q
            · exact d2 z q
            · rw [List.mem_singleton] at q; omega)
          rw [List.length_append] at this; simp at this; omega
        have twl : (nI W.length).toNatClampNeg = W.length := tn_nI (by omega)
        refine Or.inr ⟨W ++ [8 * t + j], _, D1 + 1, jm_s (jm_a (jm_a c2 16 (nI (8 * t + j)) 1) 17 (c2 21 0) (nI (8 * t + j))) 21 (c2 21 0 + 1), jm_s (jm_a (jm_a r2 19 (nI (8 * t + j)) 1) 18 (r2 17 0) (nI (8 * t + j))) 17 (r2 17 0 + 1), ⟨m1_put M1 (by simp) (fun i w => fun w2 => w (List.mem_append_left _ w2)) f15 f13, m2_new w2 (by omega) hw ?_ ?_ ?_ ?_ ?_ ?_, w3, w4, w5⟩, fun P hp => LC2 P ⟨fun w => absurd d61 w, fun _ => ⟨by rw [d3]; exact vp_in_nI hwl2 (by omega), hp⟩⟩, fun n2 kk Post hv => LR2 n2 kk Post ⟨fun _ => ⟨by rw [d4]; exact vp_in_nI hwl2 (by omega), hv⟩, fun w => absurd d62 w⟩⟩
        · show c2 21 0 + 1 = _; rw [d3, nI_1]
        · show r2 17 0 + 1 = _; rw [d4, nI_1]
        · show upd (c2 17) (c2 21 0).toNatClampNeg _ = _; rw [d3, twl]
        · show upd (r2 18) (r2 17 0).toNatClampNeg _ = _; rw [d4, twl]
        · show upd (c2 16) (nI (8 * t + j)).toNatClampNeg 1 = _; rw [tc]
        · show upd (r2 19) (nI (8 * t + j)).toNatClampNeg 1 = _; rw [tc]
    · -- more
      refine Or.inr ⟨W, _, D1 + 1, _, _, rows (c1 24 0 + c1 15 (8 * t + j)) (r1 22 0 + r1 13 (8 * t + j)) (by rw [M5, hcell _ (by omega)]), fun P hp => LC P ?_, fun n2 kk Post hv => LR kk n2 Post (fun w => by rw [eo] at w; exact absurd w (by decide)) (fun w => by rw [eo] at w; exact absurd w (by decide)) (fun w => by rw [eo] at w; exact absurd w (by decide)) (fun _ _ _ => ?_)⟩
      · rw [eo, show b_tie 7 m t (r0 6 t).toNatClampNeg = some (100 + 16 * m + t) from by simp [b_tie]]
        refine swc_7 ⟨ic, nm_e ?_⟩
        rw [bc_s _ _ _ _ _ (by omega) (by omega), tc]; exact hp
      · rw [eo]
        unfold vr_does
        rw [ycell2, y16]
        refine ⟨fun _ => ⟨fun _ => nm_e ⟨fun _ => ⟨i16, i16, nm_e ⟨fun _ => ⟨fun w => absurd rfl w, fun _ => ⟨ic, nm_e ?_⟩⟩, fun w => absurd w (by decide)⟩⟩, fun w => absurd w (by decide)⟩, fun w => absurd w (by decide)⟩, fun w => absurd w (by decide)⟩
        rw [jo_a _ _ _ _ (by omega) (by omega), jo_s _ _ _ (by omega) (by omega), tc, t16]; exact hv
    · -- less
      refine Or.inr ⟨W, _, D1 + 1, _, _, rows (c1 24 0 - c1 15 (8 * t + j)) (r1 22 0 - r1 13 (8 * t + j)) (by rw [M5, hcell _ (by omega)]), fun P hp => LC P ?_, fun n2 kk Post hv => LR kk n2 Post (fun w => by rw [eo] at w; exact absurd w (by decide)) (fun w => by rw [eo] at w; exact absurd w (by decide)) (fun w => by rw [eo] at w; exact absurd w (by decide)) (fun _ _ _ => ?_)⟩
      · rw [eo, show b_tie 8 m t (r0 6 t).toNatClampNeg = some (100 + 16 * m + t) from by simp [b_tie]]
        refine swc_8 ⟨ic, nm_e ?_⟩
        rw [bc_s _ _ _ _ _ (by omega) (by omega), tc]; exact hp
      · rw [eo]
        unfold vr_does
        rw [ycell2, y16]
        refine ⟨fun _ => ⟨fun _ => nm_e ⟨fun _ => ⟨i16, i16, nm_e ⟨fun _ => ⟨fun _ => ⟨ic, nm_e ?_⟩, fun w => absurd w (by decide)⟩, fun w => absurd w (by decide)⟩⟩, fun w => absurd w (by decide)⟩, fun w => absurd w (by decide)⟩, fun w => absurd w (by decide)⟩
        rw [jo_a _ _ _ _ (by omega) (by omega), jo_s _ _ _ (by omega) (by omega), tc, t16]; exact hv
  · -- call
    obtain ⟨h3, hh3, eh3⟩ := hX.2.2.1 p q1
    have tp : (nI p).toNatClampNeg = p := tn_nI (by omega)
    have th : (nI h3).toNatClampNeg = h3 := tn_nI (by omega)
    have tl : Q.length < 2 ^ 31 := by have := m3.1; omega
    have y10 : (10 : Int32) * nI m + nI h3 = nI (10 * m + h3) := ij (k := 10) (by omega)
    have t10 : (nI (10 * m + h3)).toNatClampNeg = 10 * m + h3 := tn_nI (by omega)
    rw [ex, tp, eh3, th] at LC
    rw [ex, tp, eh3, y10, t10] at LR
    rw [eo, show b_tie 4 m p h3 = some (10 * m + h3) from by simp [b_tie]] at LC
    obtain ⟨c2, hc2⟩ : ∃ c2, c2 = b_nt c1 Q.length (some (10 * m + h3)) := ⟨_, rfl⟩
    rw [← hc2] at LC
    have d23 : c2 23 0 = nI (D1 + 1) := by rw [hc2]; exact M4.2.1
    by_cases h8 : D1 + 1 = 8
    · refine Or.inl ⟨c2, r1, ?_, fun P hp => LC P (swc_4 ?_), fun n2 kk Post hv => LR kk n2 Post (fun _ => ⟨fun w => absurd (by rw [h8]; rfl) w, fun _ => hv⟩) (fun w => by rw [eo] at w; exact absurd w (by decide)) (fun w => by rw [eo] at w; exact absurd w (by decide)) (fun w => absurd eo w)⟩
      · rw [hc2]; exact m2_AK hT16 M2
      · have f23 : (b_c gd gj c0 c2).2.2 23 0 = nI (D1 + 1) := d23
        unfold vc_X0_enter
        rw [f23]
        exact ⟨fun w => absurd w (by rw [h8]; decide), fun _ => ⟨jj_nb0, hp⟩⟩
    · have hD7 : D1 + 1 < 8 := by omega
      have tD1 : (nI (D1 + 1)).toNatClampNeg = D1 + 1 := tn_nI (by omega)
      have iD1 : vp_in (nI (D1 + 1)) 8 := vp_in_nI (by omega) (by omega)
      refine Or.inr ⟨W, Q ++ [10 * m + h3], D1 + 2, jm_s (jm_a (jm_a c2 19 (nI (D1 + 1)) (nI p)) 20 (nI (D1 + 1)) 0) 23 (nI (D1 + 2)), jm_a (jm_a (jm_a r1 14 (nI (10 * m + h3)) (r 14 (10 * m + h3) + 1)) 20 (nI (D1 + 1)) (nI p)) 21 (nI (D1 + 1)) 0, ⟨?_, ?_, ?_, ?_, ?_⟩, fun P hp => LC P (swc_4 ?_), fun n2 kk Post hv => LR kk n2 Post (fun _ => ⟨fun _ => ⟨vp_in_nI (by omega) (by omega), vp_in_nI (by omega) (by omega), hv⟩, fun w => absurd ((nI_eq (b := 8) (by omega) (by omega)).mp w) h8⟩) (fun w => by rw [eo] at w; exact absurd w (by decide)) (fun w => by rw [eo] at w; exact absurd w (by decide)) (fun w => absurd eo w)⟩
      · rw [hc2]; exact M1
      · rw [hc2]; exact M2
      · rw [hc2]
        refine m3_add M3 hk (by omega) rfl ?_ ?_ ?_ ?_
        · show upd (c1 18) (nI Q.length).toNatClampNeg _ = _; rw [tn_nI tl]
        · rw [if_pos (by omega), rx 14 (by decide)]
          show upd (r1 14) (nI (10 * m + h3)).toNatClampNeg _ = _
          rw [t10, rx 14 (by decide)]
        · rw [if_neg (by omega)]; rfl
        · rw [if_neg (by omega)]; rfl
      · rw [hc2]
        refine m4_push m4 hD7 q1 (n' := n + 1) (by omega) rfl ?_ ?_ ?_ ?_
        · show upd (c1 19) (nI (D1 + 1)).toNatClampNeg _ = _; rw [tD1, cx 19 (by decide)]
        · show upd (r1 20) (nI (D1 + 1)).toNatClampNeg _ = _; rw [tD1, rx 20 (by decide)]
        · show upd (c1 20) (nI (D1 + 1)).toNatClampNeg _ = _; rw [tD1, cc]
        · show upd (r1 21) (nI (D1 + 1)).toNatClampNeg _ = _; rw [tD1, rr]
      · rw [hc2]; exact M5
      · have f23 : (b_c gd gj c0 c2).2.2 23 0 = nI (D1 + 1) := d23
        unfold vc_X0_enter
        rw [f23]
        refine ⟨fun _ => ⟨iD1, nm_e ?_⟩, fun w => absurd (nI_lt (b := 8) hD7 (by omega)) w⟩
        rw [bc_a _ _ _ _ _ _ (by omega) (by omega)]
        have f23b : (b_c gd gj c0 (jm_a c2 19 (nI (D1 + 1)) (nI p))).2.2 23 0 = nI (D1 + 1) := d23
        rw [f23b]
        refine ⟨iD1, nm_e (nm_e ?_)⟩
        rw [bc_a _ _ _ _ _ _ (by omega) (by omega)]
        have f23c : (b_c gd gj c0 (jm_a (jm_a c2 19 (nI (D1 + 1)) (nI p)) 20 (nI (D1 + 1)) 0)).2.2 23 0 = nI (D1 + 1) := d23
        rw [f23c, nI_1, bc_s _ _ _ _ _ (by omega) (by omega)]
        exact ⟨jj_nb1, hp⟩
  · -- skip
    rw [ex] at LC LR
    rw [eo, show b_tie 5 m (nI s).toNatClampNeg (r0 6 (nI s).toNatClampNeg).toNatClampNeg = none from by simp [b_tie]] at LC
    have f20 : (b_c gd gj c0 (b_nt c1 Q.length none)).2.2 20 (nI D1).toNatClampNeg = nI (n + 1) := by
      rw [tD]; show c1 20 D1 = _; rw [cc, pk_us]
    have iD : vp_in (nI D1) 8 := vp_in_nI (by omega) (by omega)
    by_cases hv0 : c1 24 0 = 0
    · have hr0 : r 22 0 = 0 := by rw [← rx 22 (by decide), ← M5]; exact hv0
      refine Or.inr ⟨W, Q, D1 + 1, jm_a c1 20 (nI D1) (nI (n + 1 + s)), jm_a r1 21 (nI D1) (nI (n + 1 + s)), ⟨M1, M2, m3_up M3 rfl rfl rfl rfl rfl, m4_next M4 (n' := n + 1 + s) (by omega) rfl rfl rfl ?_ ?_, M5⟩, fun P hp => LC P (swc_5 ⟨fun w => absurd hv0 w, fun _ => ⟨iD, iD, nm_e ?_⟩⟩), fun n2 kk Post hv => LR kk n2 Post (fun w => by rw [eo] at w; exact absurd w (by decide)) (fun _ => ⟨fun w => absurd hr0 w, fun _ => ?_⟩) (fun w => by rw [eo] at w; exact absurd w (by decide)) (fun _ w => absurd eo w)⟩
      · show upd (c1 20) (nI D1).toNatClampNeg _ = _; rw [tD]
      · show upd (r1 21) (nI D1).toNatClampNeg _ = _; rw [tD]
      · rw [f20, nI_add, bc_a _ _ _ _ _ _ (by omega) (by omega)]; exact hp
      · rw [nI_add]; exact hv
    · have hr0 : ¬ r 22 0 = 0 := by rw [← rx 22 (by decide), ← M5]; exact hv0
      refine Or.inr ⟨W, Q, D1 + 1, c1, jm_a r1 21 (nI D1) (nI (n + 1)), ⟨M1, M2, m3_up M3 rfl rfl rfl rfl rfl, m4_next m4 (n' := n + 1) (by omega) (cx 23 (by decide)) (cx 19 (by decide)) (rx 20 (by decide)) cc ?_, M5⟩, fun P hp => LC P (swc_5 ⟨fun _ => hp, fun w => absurd w hv0⟩), fun n2 kk Post hv => LR kk n2 Post (fun w => by rw [eo] at w; exact absurd w (by decide)) (fun _ => ⟨fun _ => ?_, fun w => absurd w hr0⟩) (fun w => by rw [eo] at w; exact absurd w (by decide)) (fun _ w => absurd eo w)⟩
      · show upd (r1 21) (nI D1).toNatClampNeg _ = _
        rw [tD, rr]
        funext x
        by_cases q : x = D1
        · subst q; rw [pk_us, pk_us]
        · rw [pk_un q, pk_un q]
      · rw [show nI (n + 1) + 0 = nI (n + 1) from nI_add _ 0]; exact hv
  · -- fail
    rw [eo, show b_tie 6 m (r0 9 (16 * i + n)).toNatClampNeg (r0 6 (r0 9 (16 * i + n)).toNatClampNeg).toNatClampNeg = none from by simp [b_tie]] at LC
    have e22 : r 22 0 = c1 24 0 := by rw [← rx 22 (by decide), ← M5]
    by_cases hv0 : c1 24 0 < 0
    · refine Or.inl ⟨c1, r1, m2_AK hT16 M2, fun P hp => LC P (swc_6 ⟨fun _ => hp, fun w => absurd hv0 w⟩), fun n2 kk Post hv => LR kk n2 Post (fun w => by rw [eo] at w; exact absurd w (by decide)) (fun w => by rw [eo] at w; exact absurd w (by decide)) (fun _ => ⟨fun w => ?_, fun _ => hv⟩) (fun _ _ w => absurd eo w)⟩
      rw [e22] at w
      exact absurd hv0 (Int32.not_lt.mpr w)
    · refine Or.inr ⟨W, Q, D1 + 1, c1, r1, ⟨M1, M2, m3_up M3 rfl rfl rfl rfl rfl, M4, M5⟩, fun P hp => LC P (swc_6 ⟨fun w => absurd w hv0, fun _ => hp⟩), fun n2 kk Post hv => LR kk n2 Post (fun w => by rw [eo] at w; exact absurd w (by decide)) (fun w => by rw [eo] at w; exact absurd w (by decide)) (fun _ => ⟨fun _ => hv, fun w => ?_⟩) (fun _ _ w => absurd eo w)⟩
      rw [e22] at w
      exact absurd (Int32.not_lt.mp hv0) w
