/-! restore -/
theorem js_k (g : jm_M) (k : Nat) (x : Int32) : jm_s g k x k 0 = x := by
  show jm_u g k (upd (g k) 0 x) k 0 = x
  rw [jm_uk, pk_us]
theorem tk_of {w : Nat → Int32} {G : jm_M} {A0 off : Nat} (hA : A0 + 13400 ≤ 53600) (ho : off < 13400) (P : Int32 → jm_M → Prop) (hp : P (G 61 (A0 + off)) (b_at w G (A0 + (off + 1)))) : vr_taken (b_at w G (A0 + off)) P := taken_of (by omega) P hp
theorem tlp {w : Nat → Int32} {G : jm_M} {A0 n kk off : Nat} (V : (jm_M → Prop) → (Int32 → jm_M → Prop) → Nat → Int32 → jm_M → Prop) {K : jm_M → Prop} {Post : Int32 → jm_M → Prop} (hV : ∀ f x g, ((nI n ≤ x → K g) ∧ (¬ nI n ≤ x → vr_taken g (fun r9 g10 => vp_in x n ∧ ∀ g11 : jm_M, g11 = jm_a g10 kk x r9 → V K Post f (x + 1) g11))) → V K Post (f + 1) x g) (hn : n ≤ 2000) (hA : A0 + 13400 ≤ 53600) (hk : kk ≠ 61) (hk2 : kk ≠ 62) (ho : off + n ≤ 13400) (hK : ∀ u : Nat → Int32, (∀ j, j < n → u j = G 61 (A0 + (off + j))) → K (b_at w (jm_u G kk u) (A0 + (off + n)))) : ∀ d i (u : Nat → Int32), i + d = n → (∀ j, j < i → u j = G 61 (A0 + (off + j))) → V K Post (d + 1) (nI i) (b_at w (jm_u G kk u) (A0 + (off + i)))
  | 0, i, u, hi, hu => by
    obtain rfl : i = n := by omega
    exact hV _ _ _ ⟨fun _ => hK u hu, fun q => absurd (nI_le (Nat.le_refl _) (by omega)) q⟩
  | d + 1, i, u, hi, hu => by
    refine hV _ _ _ ⟨fun q => absurd q (nI_ge (by omega) (by omega)), fun _ => ?_⟩
    refine tk_of hA (by omega) _ ⟨vp_in_nI (by omega) (by omega), nm_e ?_⟩
    rw [at_a _ _ _ _ hk2 (by omega), jm_uk, jm_uu, jm_un _ _ (fun e => hk e.symm), nI_1]
    refine tlp V hV hn hA hk hk2 ho hK d (i + 1) _ (by omega) (fun j hj => ?_)
    by_cases q : j = i
    · rw [q, pk_us]
    · rw [pk_un q]; exact hu j (by omega)
theorem tl0 {w : Nat → Int32} {G : jm_M} {A0 n kk off : Nat} (V : (jm_M → Prop) → (Int32 → jm_M → Prop) → Nat → Int32 → jm_M → Prop) {K : jm_M → Prop} {Post : Int32 → jm_M → Prop} (hV : ∀ f x g, ((nI n ≤ x → K g) ∧ (¬ nI n ≤ x → vr_taken g (fun r9 g10 => vp_in x n ∧ ∀ g11 : jm_M, g11 = jm_a g10 kk x r9 → V K Post f (x + 1) g11))) → V K Post (f + 1) x g) (hn : n ≤ 2000) (hA : A0 + 13400 ≤ 53600) (hk : kk ≠ 61) (hk2 : kk ≠ 62) (ho : off + n ≤ 13400) (hK : ∀ u : Nat → Int32, (∀ j, j < n → u j = G 61 (A0 + (off + j))) → K (b_at w (jm_u G kk u) (A0 + (off + n)))) : V K Post (n + 1) 0 (b_at w G (A0 + off)) := by
  have := tlp V hV hn hA hk hk2 ho hK n 0 (G kk) (by omega) (fun j hj => absurd hj (Nat.not_lt_zero j))
  rw [jm_u0] at this
  exact this
theorem rl_of {w : Nat → Int32} {G : jm_M} {A0 S : Nat} (hA : A0 + 13400 ≤ 53600) (hS : S ≤ 2000) (e40 : G 40 0 = nI S) (h45 : ∀ l, l < S → G 61 (A0 + (1726 + 5 * l)) = 0 ∨ G 61 (A0 + (1726 + 5 * l)) = 1) (Post : Int32 → jm_M → Prop) (hP : ∀ J : jm_M, (∀ k, (k < 41 ∨ 45 < k) → J k = G k) → (∀ x, x < S → J 41 x = G 61 (A0 + (1722 + 5 * x)) ∧ J 42 x = G 61 (A0 + (1723 + 5 * x)) ∧ J 43 x = G 61 (A0 + (1724 + 5 * x)) ∧ J 44 x = G 61 (A0 + (1725 + 5 * x)) ∧ J 45 x = G 61 (A0 + (1726 + 5 * x))) → ∀ A, Post 1 (b_at w J A)) : ∀ d l (J : jm_M), l + d = S → (∀ k, (k < 41 ∨ 45 < k) → J k = G k) → (∀ x, x < l → J 41 x = G 61 (A0 + (1722 + 5 * x)) ∧ J 42 x = G 61 (A0 + (1723 + 5 * x)) ∧ J 43 x = G 61 (A0 + (1724 + 5 * x)) ∧ J 44 x = G 61 (A0 + (1725 + 5 * x)) ∧ J 45 x = G 61 (A0 + (1726 + 5 * x))) → vr_restore_323 Post (d + 1) (nI l) (b_at w J (A0 + (1722 + 5 * l)))
  | 0, l, J, hl, hJ, hx => by
    obtain rfl : l = S := by omega
    unfold vr_restore_323
    rw [at_row _ _ _ (by decide), hJ 40 (by decide), e40]
    exact ⟨fun _ => hP J hJ hx _, fun q => absurd (nI_le (Nat.le_refl _) (by omega)) q⟩
  | d + 1, l, J, hl, hJ, hx => by
    have hlS : l < S := by omega
    have tl : l < 2 ^ 31 := by omega
    have il : vp_in (nI l) 2000 := vp_in_nI (by omega) (by omega)
    unfold vr_restore_323
    rw [at_row _ _ _ (by decide), hJ 40 (by decide), e40]
    refine ⟨fun q => absurd q (nI_ge (by omega) (by omega)), fun _ => ?_⟩
    refine tk_of hA (by omega) _ ⟨il, nm_e ?_⟩
    rw [at_a _ _ _ _ (by decide) tl]
    refine tk_of hA (by omega) _ ⟨il, nm_e ?_⟩
    rw [at_a _ _ _ _ (by decide) tl]
    refine tk_of hA (by omega) _ ⟨il, nm_e ?_⟩
    rw [at_a _ _ _ _ (by decide) tl]
    refine tk_of hA (by omega) _ ⟨il, nm_e ?_⟩
    rw [at_a _ _ _ _ (by decide) tl]
    refine tk_of hA (by omega) _ ?_
    have p0 : 1722 + 5 * l + 1 = 1723 + 5 * l := by omega
    have p1 : 1722 + 5 * l + 1 + 1 = 1724 + 5 * l := by omega
    have p2 : 1722 + 5 * l + 1 + 1 + 1 = 1725 + 5 * l := by omega
    have p3 : 1722 + 5 * l + 1 + 1 + 1 + 1 = 1726 + 5 * l := by omega
    have p4 : 1722 + 5 * l + 1 + 1 + 1 + 1 + 1 = 1722 + 5 * (l + 1) := by omega
    obtain ⟨f, hf⟩ : ∃ f, f = G 61 := ⟨_, rfl⟩
    have jf : J 61 = f := by rw [hf]; exact hJ 61 (by decide)
    rw [p4, p3, p2, p1, p0]
    rw [← hf] at h45 hx
    have fin : ∀ v : Int32, v = f (A0 + (1726 + 5 * l)) → ∀ J2 : jm_M, J2 = jm_u (jm_u (jm_u (jm_u (jm_u J 41 (upd (J 41) l (f (A0 + (1722 + 5 * l))))) 42 (upd (J 42) l (f (A0 + (1723 + 5 * l))))) 43 (upd (J 43) l (f (A0 + (1724 + 5 * l))))) 44 (upd (J 44) l (f (A0 + (1725 + 5 * l))))) 45 (upd (J 45) l v) → vr_restore_323 Post (d + 1) (nI (l + 1)) (b_at w J2 (A0 + (1722 + 5 * (l + 1)))) := by
      intro v hv J2 hJ2
      refine rl_of hA hS e40 (by rw [← hf]; exact h45) Post hP d (l + 1) J2 (by omega) (fun k hk => ?_) (fun x hxl => ?_)
      · rw [hJ2, jm_un _ _ (by omega), jm_un _ _ (by omega), jm_un _ _ (by omega), jm_un _ _ (by omega), jm_un _ _ (by omega)]
        exact hJ k hk
      · rw [← hf, hJ2]
        show upd (J 41) l _ x = _ ∧ upd (J 42) l _ x = _ ∧ upd (J 43) l _ x = _ ∧ upd (J 44) l _ x = _ ∧ upd (J 45) l _ x = _
        by_cases q : x = l
        · subst q; rw [pk_us, pk_us, pk_us, pk_us, pk_us]; exact ⟨rfl, rfl, rfl, rfl, hv⟩
        · rw [pk_un q, pk_un q, pk_un q, pk_un q, pk_un q]; exact hx x (by omega)
    refine ⟨fun q => ⟨il, nm_e ?_⟩, fun q => ⟨il, nm_e ?_⟩⟩
    · rw [at_a _ _ _ _ (by decide) tl, nI_1]
      have q' : ¬ f (A0 + (1726 + 5 * l)) = 1 := by rw [← jf]; exact q
      refine fin 0 ?_ _ ?_
      · rcases h45 l hlS with q2 | q2
        · exact q2.symm
        · exact absurd q2 q'
      · rw [← jf]; rfl
    · rw [at_a _ _ _ _ (by decide) tl, nI_1]
      have q' : f (A0 + (1726 + 5 * l)) = 1 := by rw [← jf]; exact q
      refine fin 1 q'.symm _ ?_
      rw [← jf]; rfl
theorem res_r {r : jm_M} {i S : Nat} (hi : i < 4) (h60 : ¬ r 60 i = 0) (h0 : r 61 (13400 * i) = r 1 0) (h1 : r 61 (13400 * i + 1) = r 3 0) (hS : S ≤ 2000) (e40 : r 61 (13400 * i + 1721) = nI S) (h58 : r 61 (13400 * i + 1717) = 0 ∨ r 61 (13400 * i + 1717) = 1) (h45 : ∀ l, l < S → r 61 (13400 * i + (1726 + 5 * l)) = 0 ∨ r 61 (13400 * i + (1726 + 5 * l)) = 1) (P : Int32 → jm_M → Prop) (hP : ∀ (J : jm_M) (A : Nat), im_same S J (b_im (r 61) i) → (∀ k, (k < 11 ∨ (12 < k ∧ k < 24) ∨ (30 < k ∧ k < 40) ∨ (45 < k ∧ k < 57) ∨ 59 < k) → J k = r k) → P 1 (b_at (r 62) J A)) : vr_restore (nI i) r P := by
  unfold vr_restore
  rw [vr_in_iff, if_neg (fun q => by rcases q with q | q; exact nI_pos (by omega) q; exact nI_nlt (a := 3) (b := i) (by omega) (by omega) q)]
  obtain ⟨A0, hA0⟩ : ∃ A0, A0 = 13400 * i := ⟨_, rfl⟩
  have hA : A0 + 13400 ≤ 53600 := by omega
  have e0 : jm_s r 62 ((13400 : Int32) * nI i) = b_at (r 62) r A0 := by
    rw [show (13400 : Int32) * nI i = nI (13400 * i) from pk_mul 13400 i, hA0]; rfl
  refine ⟨fun _ => nm_e ⟨vp_in_nI hi (by omega), ?_⟩, fun q => absurd q (by decide)⟩
  have k1 : r 61 (13400 * i + 1) = r 61 (A0 + 1) := by rw [hA0]
  rw [e0, at_62, tn_nI (by omega), nI_1, tn_nI (by omega), tn_nI (by omega), at_row _ _ _ (by decide), at_row _ _ _ (by decide), at_row _ _ _ (by decide), at_row _ _ _ (by decide)]
  refine ⟨fun q => absurd q h60, fun _ => ⟨vp_in_nI (by omega) (by omega), fun q => absurd (by rw [hA0]; exact h0) q, fun _ => ⟨vp_in_nI (by omega) (by omega), fun _ => nm_e ⟨129, ?_⟩, fun q => absurd (by rw [hA0]; exact h1) q⟩⟩⟩
  rw [show nI A0 + 2 = nI (A0 + 2) from nI_add A0 2, at_s]
  rw [← hA0] at e40 h58 h45
  refine tl0 (n := 128) (kk := 11) (off := 2) vr_restore_78 (fun f x g h => by unfold vr_restore_78; exact h) (by omega) hA (by decide) (by decide) (by omega) (fun u11 h11 => ⟨129, ?_⟩)
  refine tl0 (n := 128) (kk := 12) (off := 130) vr_restore_103 (fun f x g h => by unfold vr_restore_103; exact h) (by omega) hA (by decide) (by decide) (by omega) (fun u12 h12 => ⟨101, ?_⟩)
  refine tl0 (n := 100) (kk := 24) (off := 258) vr_restore_128 (fun f x g h => by unfold vr_restore_128; exact h) (by omega) hA (by decide) (by decide) (by omega) (fun u24 h24 => ⟨161, ?_⟩)
  refine tl0 (n := 160) (kk := 25) (off := 358) vr_restore_152 (fun f x g h => by unfold vr_restore_152; exact h) (by omega) hA (by decide) (by decide) (by omega) (fun u25 h25 => ⟨161, ?_⟩)
  refine tl0 (n := 160) (kk := 26) (off := 518) vr_restore_177 (fun f x g h => by unfold vr_restore_177; exact h) (by omega) hA (by decide) (by decide) (by omega) (fun u26 h26 => ⟨1025, ?_⟩)
  refine tl0 (n := 1024) (kk := 27) (off := 678) vr_restore_202 (fun f x g h => by unfold vr_restore_202; exact h) (by omega) hA (by decide) (by decide) (by omega) (fun u27 h27 => ⟨11, ?_⟩)
  refine tl0 (n := 10) (kk := 30) (off := 1702) vr_restore_227 (fun f x g h => by unfold vr_restore_227; exact h) (by omega) hA (by decide) (by decide) (by omega) (fun u30 h30 => ⟨6, ?_⟩)
  refine tl0 (n := 5) (kk := 59) (off := 1712) vr_restore_251 (fun f x g h => by unfold vr_restore_251; exact h) (by omega) hA (by decide) (by decide) (by omega) (fun u59 h59 => ?_)
  obtain ⟨G8, hG8⟩ : ∃ G8, G8 = jm_u (jm_u (jm_u (jm_u (jm_u (jm_u (jm_u (jm_u r 11 u11) 12 u12) 24 u24) 25 u25) 26 u26) 27 u27) 30 u30) 59 u59 := ⟨_, rfl⟩
  rw [← hG8]
  have e61 : G8 61 = r 61 := by rw [hG8]; rfl
  obtain ⟨f, hf⟩ : ∃ f, f = r 61 := ⟨_, rfl⟩
  have tail : ∀ (x : Int32) (K : jm_M → Prop), (∀ J : jm_M, J = jm_s (jm_s (jm_s (jm_s (jm_s G8 58 x) 57 (f (A0 + 1718))) 28 (f (A0 + 1719))) 29 (f (A0 + 1720))) 40 (f (A0 + 1721)) → K (b_at (r 62) J (A0 + 1722))) → vr_taken (b_at (r 62) (jm_s G8 58 x) (A0 + 1718)) (fun r52 g53 => ∀ g54 : jm_M, g54 = jm_s g53 57 r52 → vr_taken g54 (fun r55 g56 => ∀ g57 : jm_M, g57 = jm_s g56 28 r55 → vr_taken g57 (fun r58 g59 => ∀ g60 : jm_M, g60 = jm_s g59 29 r58 → vr_taken g60 (fun r61 g62 => ∀ g63 : jm_M, g63 = jm_s g62 40 r61 → K g63)))) := by
    intro x K hK
    refine tk_of (off := 1718) hA (by omega) _ (nm_e ?_)
    rw [at_v _ _ _ _ (by decide)]
    refine tk_of (off := 1719) hA (by omega) _ (nm_e ?_)
    rw [at_v _ _ _ _ (by decide)]
    refine tk_of (off := 1720) hA (by omega) _ (nm_e ?_)
    rw [at_v _ _ _ _ (by decide)]
    refine tk_of (off := 1721) hA (by omega) _ (nm_e ?_)
    rw [at_v _ _ _ _ (by decide)]
    refine hK _ ?_
    rw [hf, ← e61]; rfl
  have last : ∀ x : Int32, x = f (A0 + 1717) → ∀ J : jm_M, J = jm_s (jm_s (jm_s (jm_s (jm_s G8 58 x) 57 (f (A0 + 1718))) 28 (f (A0 + 1719))) 29 (f (A0 + 1720))) 40 (f (A0 + 1721)) → ∃ n82 : Nat, vr_restore_323 P n82 0 (b_at (r 62) J (A0 + 1722)) := by
    intro x hx J hJ
    have j61 : J 61 = r 61 := by rw [hJ, ← e61]; rfl
    refine ⟨S + 1, rl_of (G := J) hA hS ?_ ?_ P (fun J2 q1 q2 A => hP J2 A ⟨fun j hj => ?_, fun j hj => ?_, fun j hj => ?_, fun j hj => ?_, fun j hj => ?_, fun j hj => ?_, fun j hj => ?_, fun j hj => ?_, ?_, ?_, ?_, ?_, ?_, fun l hl => ?_⟩ (fun k hk => ?_)) S 0 J (by omega) (fun k _ => rfl) (fun x hx => absurd hx (Nat.not_lt_zero x))⟩
    · rw [hJ, js_k, hf]; exact e40
    · rw [j61]; exact h45
    · rw [q1 11 (by decide), hJ, hG8]
      show u11 j = r 61 (13400 * i + 2 + j)
      rw [Nat.add_assoc, ← hA0]; exact h11 j hj
    · rw [q1 12 (by decide), hJ, hG8]
      show u12 j = r 61 (13400 * i + 130 + j)
      rw [Nat.add_assoc, ← hA0]; exact h12 j hj
    · rw [q1 24 (by decide), hJ, hG8]
      show u24 j = r 61 (13400 * i + 258 + j)
      rw [Nat.add_assoc, ← hA0]; exact h24 j hj
    · rw [q1 25 (by decide), hJ, hG8]
      show u25 j = r 61 (13400 * i + 358 + j)
      rw [Nat.add_assoc, ← hA0]; exact h25 j hj
    · rw [q1 26 (by decide), hJ, hG8]
      show u26 j = r 61 (13400 * i + 518 + j)
      rw [Nat.add_assoc, ← hA0]; exact h26 j hj
    · rw [q1 27 (by decide), hJ, hG8]
      show u27 j = r 61 (13400 * i + 678 + j)
      rw [Nat.add_assoc, ← hA0]; exact h27 j hj
    · rw [q1 30 (by decide), hJ, hG8]
      show u30 j = r 61 (13400 * i + 1702 + j)
      rw [Nat.add_assoc, ← hA0]; exact h30 j hj
    · rw [q1 59 (by decide), hJ, hG8]
      show u59 j = r 61 (13400 * i + 1712 + j)
      rw [Nat.add_assoc, ← hA0]; exact h59 j hj
    · rw [q1 58 (by decide), hJ]
      show _ = r 61 (13400 * i + 1717)
      rw [js_un _ _ (by decide), js_un _ _ (by decide), js_un _ _ (by decide), js_un _ _ (by decide), js_k, hx, hf, hA0]
    · rw [q1 57 (by decide), hJ]
      show _ = r 61 (13400 * i + 1718)
      rw [js_un _ _ (by decide), js_un _ _ (by decide), js_un _ _ (by decide), js_k, hf, hA0]
    · rw [q1 28 (by decide), hJ]
      show _ = r 61 (13400 * i + 1719)
      rw [js_un _ _ (by decide), js_un _ _ (by decide), js_k, hf, hA0]
    · rw [q1 29 (by decide), hJ]
      show _ = r 61 (13400 * i + 1720)
      rw [js_un _ _ (by decide), js_k, hf, hA0]
    · rw [q1 40 (by decide), hJ]
      show _ = r 61 (13400 * i + 1721)
      rw [js_k, hf, hA0]
    · obtain ⟨b1, b2, b3, b4, b5⟩ := q2 l hl
      rw [b1, b2, b3, b4, b5, j61, hA0]
      show r 61 _ = r 61 (13400 * i + 1722 + 5 * l) ∧ r 61 _ = r 61 (13400 * i + 1723 + 5 * l) ∧ r 61 _ = r 61 (13400 * i + 1724 + 5 * l) ∧ r 61 _ = r 61 (13400 * i + 1725 + 5 * l) ∧ r 61 _ = r 61 (13400 * i + 1726 + 5 * l)
      rw [Nat.add_assoc, Nat.add_assoc, Nat.add_assoc, Nat.add_assoc, Nat.add_assoc]
      exact ⟨rfl, rfl, rfl, rfl, rfl⟩
    · rw [q1 k (by omega), hJ, js_un _ _ (by omega), js_un _ _ (by omega), js_un _ _ (by omega), js_un _ _ (by omega), js_un _ _ (by omega), hG8, jm_un _ _ (by omega), jm_un _ _ (by omega), jm_un _ _ (by omega), jm_un _ _ (by omega), jm_un _ _ (by omega), jm_un _ _ (by omega), jm_un _ _ (by omega), jm_un _ _ (by omega)]
  refine tk_of (off := 1717) hA (by omega) _ ?_
  rw [e61, ← hf, at_v _ _ _ _ (by decide), at_v _ _ _ _ (by decide)]
  rw [← hf] at h58
  refine ⟨fun q => nm_e (tail 0 _ (last 0 ?_)), fun q => nm_e (tail 1 _ (last 1 q.symm))⟩
  rcases h58 with q2 | q2
  · exact q2.symm
  · exact absurd q2 q
theorem op_restore {B : Nat} {gC : cm_M} {gR : jm_M} (h : b_R B gC gR) (a : Int32) : b_ok2 B 4 6144 (fun MC MS => vc_X10_restore MC MS a gC) (vr_restore a gR) := by
  obtain ⟨M, T, N, hT, hX, ht, hH, hW, hP, hA, hI⟩ := id h
  obtain ⟨hM, hT16, hN, c12, r1, c13, r3, c14, r5, e4⟩ := id hT
  rcases ix_cases a (n := 4) (by omega) with h1 | ⟨i, hi, rfl, h1⟩
  · refine ⟨-1, fun g => g = gC, fun g => g = gR, fun MC MS P _ _ hp => ?_, fun P hp => ?_, fun g g2 e1 e2 => by rw [e1, e2]; exact h⟩
    · refine ⟨fun _ => hp _ rfl, fun i hi e => absurd h1 (fun q => ?_)⟩
      rw [e] at q
      rcases q with q | q
      · exact nI_pos (by omega) q
      · exact nI_ge hi (by omega) q
    · unfold vr_restore
      rw [vr_in_iff, if_pos (show a < 0 ∨ 3 < a by rcases h1 with q | q; exact Or.inl q; exact Or.inr ((i3 a).mpr q))]
      exact ⟨fun q => absurd rfl q, fun _ => hp _ rfl⟩
  · obtain ⟨gd, gj, c⟩ := gC
    have hout : ¬ (nI i < 0 ∨ ¬ nI i < 4) := fun w => by
      rcases w with w | w
      · exact h1 (Or.inl w)
      · exact h1 (Or.inr ((i4 _).mp w))
    have ti : (nI i).toNatClampNeg = i := tn_nI (by omega)
    have hin : (if nI i < 0 ∨ 3 < nI i then (0 : Int32) else 1) = 1 := if_neg (fun q => by rcases q with q | q; exact nI_pos (by omega) q; exact nI_nlt (a := 3) (b := i) (by omega) (by omega) q)
    obtain ⟨A0, hA0⟩ : ∃ A0, A0 = 13400 * i := ⟨_, rfl⟩
    have e0 : jm_s gR 62 ((13400 : Int32) * nI i) = b_at (gR 62) gR A0 := by
      rw [show (13400 : Int32) * nI i = nI (13400 * i) from pk_mul 13400 i, hA0]; rfl
    rcases hI i hi with ⟨q1, q2⟩ | ⟨a0, q1, q2, q3, q4, T0, q5, q6, q7⟩
    · refine ⟨-2, fun g => g = (gd, gj, c), fun g => g = b_at (gR 62) gR A0, fun MC MS P _ _ hp => ⟨fun w => absurd w hout, fun i2 hi2 e2 => ?_⟩, fun P hp => ?_, fun g g2 e1 e2 => by rw [e1, e2]; exact ⟨M, T, N, hT, hX, ht, hH, hW, hP, hA, hI⟩⟩
      · obtain rfl : i2 = i := (nI_eq (by omega) (by omega)).mp e2.symm
        exact ⟨fun _ => hp _ rfl, fun a3 q3 => absurd (q1.symm.trans q3) (by simp)⟩
      · unfold vr_restore
        rw [vr_in_iff, hin]
        refine ⟨fun _ => nm_e ⟨vp_in_nI hi (by omega), ?_⟩, fun q => absurd q (by decide)⟩
        rw [e0, ti]
        exact ⟨fun _ => hp _ rfl, fun q => absurd q2 q⟩
    · have hn60 : ¬ gR 60 i = 0 := fun w => absurd (w.symm.trans q2) (by decide)
      by_cases hsame : gR 61 (13400 * i) = gR 1 0 ∧ gR 61 (13400 * i + 1) = gR 3 0
      · obtain ⟨s1, s2⟩ := hsame
        obtain rfl : T0 = T := (nI_eq (by omega) (by omega)).mp (q6.symm.trans (s2.trans r3))
        have hlen := H_len q7
        have hlo := H_len hH
        obtain ⟨k, ks, kw, hok, hk, hks, e40⟩ := H_ok q7 hlo
        obtain ⟨hy, hr, hkk, ⟨u1, u2, u3, u4, u5, u6⟩, hS, ⟨S, e, l1, l2, l3, l4, l5, l6, l7, l8, l9⟩⟩ := id q7
        obtain rfl : S = ks := (nI_eq (by omega) (by omega)).mp (l3.symm.trans e40)
        have h45 : ∀ l, l < S → gR 61 (13400 * i + (1726 + 5 * l)) = 0 ∨ gR 61 (13400 * i + (1726 + 5 * l)) = 1 := fun l hl => by
          obtain ⟨k0, f0, t0, b1, b2, b3, b4, b5, b6, b7, b8, b9⟩ := l8 l hl
          rw [← Nat.add_assoc]; exact b9
        refine ⟨1, fun g => ∃ (a2 n2 : Nat → Nat) (g2 : jm_M), hs_len k S gd.2.1 (gd.2.2.2.1 i) n2 ∧ hs_same k S kw g2 (gd.2.2.2.2 i) ∧ g = cm_back (gd, gj, c) a2 n2 g2, fun g => ∃ (J : jm_M) (A : Nat), im_same S J (b_im (gR 61) i) ∧ (∀ k, (k < 11 ∨ (12 < k ∧ k < 24) ∨ (30 < k ∧ k < 40) ∨ (45 < k ∧ k < 57) ∨ 59 < k) → J k = gR k) ∧ g = b_at (gR 62) J A, fun MC MS P hMC hMS hp => ⟨fun w => absurd w hout, fun i2 hi2 e2 => ?_⟩, fun P hp => res_r hi hn60 s1 s2 l1 l3 u3 h45 P (fun J A j1 j2 => hp _ ⟨J, A, j1, j2, rfl⟩), ?_⟩
        · obtain rfl : i2 = i := (nI_eq (by omega) (by omega)).mp e2.symm
          refine ⟨fun w => absurd (w.symm.trans q1) (by simp), fun a3 _ => ⟨fun w => ?_, fun _ _ => ⟨k, S, kw, by omega, ?_, hok, fun a2 n2 g2 hl hs => hp _ ⟨a2, n2, g2, hl, hs, rfl⟩⟩⟩⟩
          · rcases w with w | w
            · exact absurd (q3.trans (s1.trans (r1.trans c12.symm))) w
            · exact absurd (q4.trans (s2.trans (r3.trans c13.symm))) w
          · obtain ⟨o1, o2, o3, o4, o5, o6⟩ := hlen
            have a1 : gd.2.2.2.1 i2 0 ≤ 1024 := o2
            have a2 : gd.2.2.2.1 i2 2 ≤ 2048 := o5
            show 2 * gd.2.2.2.1 i2 0 + 2 * gd.2.2.2.1 i2 2 ≤ MS
            omega
        · rintro g g2 ⟨a2, n2, gi, hl, hs, rfl⟩ ⟨J, A, j1, j2, rfl⟩
          obtain ⟨ln, ln2, ln3⟩ := len_len hl hlo hlen
          have hH2 : b_H B T0 n2 gi J := H_copy q7 hok hk hks hs j1 ln ln2 ln3
          have hJ : J = jm_o (jm_o (jm_o (jm_o gR J 11 12) J 24 30) J 40 45) J 57 59 := by
            funext x
            by_cases w1 : 57 ≤ x ∧ x ≤ 59
            · rw [jm_o_in _ _ w1.1 w1.2]
            · rw [jm_o_out _ _ (by omega)]
              by_cases w2 : 40 ≤ x ∧ x ≤ 45
              · rw [jm_o_in _ _ w2.1 w2.2]
              · rw [jm_o_out _ _ (by omega)]
                by_cases w3 : 24 ≤ x ∧ x ≤ 30
                · rw [jm_o_in _ _ w3.1 w3.2]
                · rw [jm_o_out _ _ (by omega)]
                  by_cases w4 : 11 ≤ x ∧ x ≤ 12
                  · rw [jm_o_in _ _ w4.1 w4.2]
                  · rw [jm_o_out _ _ (by omega)]; exact j2 x (by omega)
          refine ⟨M, T0, N, ?_, ?_, ?_, hH2, ?_, ?_, hA, ?_⟩
          · rw [hJ]; exact hT
          · rw [hJ]; exact hX
          · rw [hJ]; exact ht
          · rw [hJ]; exact hW
          · rw [hJ]; exact hP
          · rw [hJ]; exact hI
      · refine ⟨-2, fun g => g = (gd, gj, c), fun g => g = b_at (gR 62) gR A0, fun MC MS P _ _ hp => ⟨fun w => absurd w hout, fun i2 hi2 e2 => ?_⟩, fun P hp => ?_, fun g g2 e1 e2 => by rw [e1, e2]; exact ⟨M, T, N, hT, hX, ht, hH, hW, hP, hA, hI⟩⟩
        · obtain rfl : i2 = i := (nI_eq (by omega) (by omega)).mp e2.symm
          refine ⟨fun _ => hp _ rfl, fun a3 _ => ⟨fun _ => hp _ rfl, fun w1 w2 => absurd ⟨?_, ?_⟩ hsame⟩⟩
          · exact q3.symm.trans (w1.trans (c12.trans r1.symm))
          · exact q4.symm.trans (w2.trans (c13.trans r3.symm))
        · unfold vr_restore
          rw [vr_in_iff, hin]
          refine ⟨fun _ => nm_e ⟨vp_in_nI hi (by omega), ?_⟩, fun q => absurd q (by decide)⟩
          rw [e0, ti, at_62, tn_nI (by omega), nI_1, tn_nI (by omega)]
          refine ⟨fun _ => hp _ rfl, fun _ => ⟨vp_in_nI (by omega) (by omega), fun _ => hp _ rfl, fun w1 => ⟨vp_in_nI (by omega) (by omega), fun w2 => absurd ⟨?_, ?_⟩ hsame, fun _ => hp _ rfl⟩⟩⟩
          · rw [← hA0]; exact w1
          · rw [← hA0]; exact w2
