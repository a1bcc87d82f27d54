theorem rst_home {o z : Nat} {r : jm_M} (h : b_rm r z = o) : b_rst o r z = jm_u r 12 (upd (r 12) z (r 13 z)) := if_pos h
theorem rst_sent {o z S : Nat} {r : jm_M} (h : b_rm r z ≠ o) (e : r 40 0 = nI S) (hS : S ≤ 2000) : b_rst o r z = jm_u (jm_u (jm_u (jm_u (jm_u (jm_u r 41 (upd (r 41) S (nI z))) 42 (upd (r 42) S (r 13 z))) 43 (upd (r 43) S (nI o))) 44 (upd (r 44) S (nI (b_rm r z)))) 45 (upd (r 45) S 1)) 40 (upd (r 40) 0 (nI (S + 1))) := by
  unfold b_rst
  rw [if_neg h, e, tn_nI (by omega)]
theorem str_cons (o : Nat) (r : jm_M) (x : Nat) (xs : List Nat) : b_str o r (x :: xs) = (if b_rm r x = o then 0 else 1) + b_str o r xs := by
  unfold b_str
  rw [List.filter_cons]
  by_cases q : b_rm r x = o
  · simp [q]
  · simp [q]; omega
theorem str_same {o : Nat} {r r2 : jm_M} (h4 : r2 4 = r 4) (h30 : r2 30 = r 30) (xs : List Nat) : b_str o r2 xs = b_str o r xs := by
  unfold b_str
  congr 1
  refine List.filter_congr (fun z _ => ?_)
  rw [rm_same h4 h30]
theorem rsts_wl {o : Nat} : ∀ (xs : List Nat) (S : Nat) (r : jm_M), r 40 0 = nI S → S + b_str o r xs ≤ 2000 → (b_wl (b_rsts o r xs 45) (S + b_str o r xs)).length = (b_wl (r 45) S).length + b_str o r xs
  | [], S, r, e, _ => rfl
  | x :: xs, S, r, e, h => by
    have hs := str_cons o r x xs
    have hsame : b_str o (b_rst o r x) xs = b_str o r xs := str_same (rst_row o r x (by decide) (by decide)) (rst_row o r x (by decide) (by decide)) xs
    show (b_wl (b_rsts o (b_rst o r x) xs 45) _).length = _
    by_cases q : b_rm r x = o
    · rw [if_pos q] at hs
      have e2 : b_rst o r x 40 0 = nI S := by rw [rst_home q]; exact e
      have e45 : b_rst o r x 45 = r 45 := by rw [rst_home q]; rfl
      have ih := rsts_wl (o := o) xs S (b_rst o r x) e2 (by omega)
      rw [hsame, e45] at ih
      rw [hs, Nat.zero_add]; exact ih
    · rw [if_neg q] at hs
      have hS : S ≤ 2000 := by omega
      have e2 : b_rst o r x 40 0 = nI (S + 1) := by rw [rst_sent q e hS]; rfl
      have e45 : b_rst o r x 45 = upd (r 45) S 1 := by rw [rst_sent q e hS]; rfl
      have ih := rsts_wl (o := o) xs (S + 1) (b_rst o r x) e2 (by omega)
      rw [hsame, e45, wl_more, List.length_append] at ih
      rw [hs, ← Nat.add_assoc, ih]
      simp; omega
theorem rsts_12 {o T : Nat} : ∀ (xs : List Nat) (r : jm_M), (∀ z, z ∈ xs → z < 8 * T) → ∀ x, 8 * T ≤ x → b_rsts o r xs 12 x = r 12 x
  | [], r, _, x, _ => rfl
  | z :: xs, r, h, x, hx => by
    show b_rsts o (b_rst o r z) xs 12 x = _
    rw [rsts_12 xs _ (fun y hy => h y (List.mem_cons_of_mem _ hy)) x hx]
    have hz := h z List.mem_cons_self
    by_cases q : b_rm r z = o
    · rw [rst_home q]
      show upd (r 12) z (r 13 z) x = _
      rw [pk_un (by omega)]
    · unfold b_rst
      rw [if_neg q]
      rfl
theorem kn2 {M T o S : Nat} {gd : cm_D} {gj : cm_J} {c r : jm_M} {W : List Nat} (hM : M ≤ 10) (hT16 : T ≤ 16) (h4 : ∀ i, i < T → ∃ h : Nat, h < M ∧ r 4 i = nI h) (h30 : ∀ i, i < 10 → ∃ z : Nat, z < 6 ∧ r 30 i = nI z) (e5 : c 5 = r 4) (e27 : ∀ i, i < 10 → c 27 i = r 30 i) (hW : ∀ z, z ∈ W → z < 8 * T) (hl : W.length ≤ 128) (e21 : c 21 0 = nI W.length) (e17 : ∀ j, j < W.length → c 17 j = nI (W.getD j 0)) (e15 : ∀ x, x < 128 → c 15 x = r 13 x) (ho : o < 6) (e40 : r 40 0 = nI S) (hS : S + b_str o r W ≤ 2000) (hwl : (b_wl (r 45) S).length + b_str o r W ≤ 40) {MC MS : Nat} (hMC : 128 ≤ MC) (hMS : 8192 ≤ MS) (K : Nat → Nat → cm_M → Prop) (Post : Int32 → cm_M → Prop) (hK : ∀ (uc us : Nat) (a' n' : Nat → Nat) (c' : jm_M), uc ≤ 128 → us ≤ 8192 → n' 0 = gd.2.1 0 → n' 1 = gd.2.1 1 → (∀ k, k ≠ 26 → (k < 37 ∨ 41 < k) → c' k = c k) → (∀ x, x < 128 → c' 26 x = b_rsts o r W 12 x) → b_L T n' c' (b_rsts o r W) → K uc us ((a', n', gd.2.2), gj, c')) : ∀ d i (uc us : Nat) (a' n' : Nat → Nat) (c' : jm_M), i + d = W.length → n' 0 = gd.2.1 0 → n' 1 = gd.2.1 1 → us + 4 * gd.2.1 2 = 4 * n' 2 → 64 * uc ≤ us → (∀ k, k ≠ 26 → (k < 37 ∨ 41 < k) → c' k = c k) → (∀ x, x < 128 → c' 26 x = b_rsts o r (W.take i) 12 x) → b_L T n' c' (b_rsts o r (W.take i)) → vc_X4_keepNew_66 MC MS (nI o) K Post (d + 1) (nI i) uc us ((a', n', gd.2.2), gj, c')
  | 0, i, uc, us, a', n', c', hi, q0, q1, qs, qc, hc, h26, hL => by
    obtain rfl : i = W.length := by omega
    rw [List.take_length] at h26 hL
    have hn2 : n' 2 ≤ 2048 := by obtain ⟨S1, e1, l1, l2, l3, l4, l5, l6, l7⟩ := hL; exact l6
    have f21 : (((a', n', gd.2.2), gj, c') : cm_M).2.2 21 0 = nI W.length := by show c' 21 0 = _; rw [hc 21 (by decide) (by decide)]; exact e21
    unfold vc_X4_keepNew_66
    rw [f21]
    exact ⟨by omega, by omega, fun _ => hK uc us a' n' c' (by omega) (by omega) q0 q1 hc h26 hL, fun w => absurd (nI_le (Nat.le_refl _) (by omega)) w⟩
  | d + 1, i, uc, us, a', n', c', hi, q0, q1, qs, qc, hc, h26, hL => by
    have hi2 : i < W.length := by omega
    have hn2 : n' 2 ≤ 2048 := by obtain ⟨S1, e1, l1, l2, l3, l4, l5, l6, l7⟩ := id hL; exact l6
    obtain ⟨z, hz⟩ : ∃ z, z = W.getD i 0 := ⟨_, rfl⟩
    have hzW : z ∈ W := by rw [hz]; exact gd_mem hi2
    have hz8 := hW z hzW
    obtain ⟨ri, hri⟩ : ∃ ri, ri = b_rsts o r (W.take i) := ⟨_, rfl⟩
    rw [← hri] at h26 hL
    have row : ∀ {k : Nat}, k ≠ 12 → (k < 40 ∨ 45 < k) → ri k = r k := fun h1 h2 => by rw [hri]; exact rsts_row o _ r h1 h2
    have t1 : (nI i).toNatClampNeg = i := tn_nI (by omega)
    have tz : (nI z).toNatClampNeg = z := tn_nI (by omega)
    have f21 : (((a', n', gd.2.2), gj, c') : cm_M).2.2 21 0 = nI W.length := by show c' 21 0 = _; rw [hc 21 (by decide) (by decide)]; exact e21
    have f17 : (((a', n', gd.2.2), gj, c') : cm_M).2.2 17 i = nI z := by show c' 17 i = _; rw [hc 17 (by decide) (by decide), hz]; exact e17 i hi2
    have ed : nI z / 8 = nI (z / 8) := pk_div (d := 8) (by omega) (by omega) (by omega)
    have td : (nI (z / 8)).toNatClampNeg = z / 8 := tn_nI (by omega)
    obtain ⟨h, hh, hzT, eh, hp, ep⟩ := room_of hM hT16 h4 h30 hz8
    have th : (nI h).toNatClampNeg = h := tn_nI (by omega)
    have f5 : (((a', n', gd.2.2), gj, c') : cm_M).2.2 5 (z / 8) = nI h := by show c' 5 (z / 8) = _; rw [hc 5 (by decide) (by decide), e5]; exact eh
    have f27 : (((a', n', gd.2.2), gj, c') : cm_M).2.2 27 h = nI (b_rm r z) := by show c' 27 h = _; rw [hc 27 (by decide) (by decide), e27 h hh]; exact ep
    have f15 : (((a', n', gd.2.2), gj, c') : cm_M).2.2 15 z = ri 13 z := by show c' 15 z = _; rw [hc 15 (by decide) (by decide), row (by decide) (by decide)]; exact e15 z (by omega)
    have hts : W.take (i + 1) = W.take i ++ [z] := by rw [hz]; exact take_s hi2
    have main := kn2 (gd := gd) (gj := gj) hM hT16 h4 h30 e5 e27 hW hl e21 e17 e15 ho e40 hS hwl hMC hMS K Post hK d (i + 1)
    rw [hts, rsts_add, ← hri] at main
    have eo : nI (b_rm r z) = nI o ↔ b_rm r z = o := nI_eq (by omega) (by omega)
    have erm : b_rm ri z = b_rm r z := rm_same (row (by decide) (by decide)) (row (by decide) (by decide)) z
    have hst := str_take o r W d (i + 1) (by omega)
    rw [hts, str_add] at hst
    unfold vc_X4_keepNew_66
    rw [f21, t1, f17]
    refine ⟨by omega, by omega, fun w => absurd w (nI_ge hi2 (by omega)), fun _ => ⟨vp_in_nI (by omega) (by omega), nm_e ?_⟩⟩
    unfold vc_X4_roomOf
    rw [ed, td, f5, th, f27, tz, f15]
    refine ⟨vp_in_nI (by omega) (by omega), vp_in_nI (by omega) (by omega), fun w => ⟨vp_in_nI (by omega) (by omega), ?_⟩, fun w => ⟨vp_in_nI (by omega) (by omega), vp_in_nI (by omega) (by omega), nm_e ?_⟩⟩
    · have hne : b_rm r z ≠ o := fun e => w (eo.mpr e)
      rw [if_neg hne] at hst
      have f40 : ri 40 0 = nI (S + b_str o r (W.take i)) := by rw [hri]; exact rsts_sent (by omega) _ r e40 (by omega)
      have flen := rsts_wl (o := o) (W.take i) S r e40 (by omega)
      rw [← hri] at flen
      obtain ⟨mc, ms, hmm, hms, hsend⟩ := send_of (gd := (a', n', gd.2.2)) (gj := gj) (v := ri 13 z) hT16 hL f40 (by omega) (by omega) hz8 ho hp
      refine ⟨mc, ms, ?_, ?_, hsend _ (fun a2 n2 c2 p0 p1 ps pr pl => ?_)⟩
      · have hms2 : ms + 4 * n' 2 ≤ 8192 := hms
        omega
      · have hms2 : ms + 4 * n' 2 ≤ 8192 := hms
        omega
      · rw [nI_1]
        have el := pl (b_rst o ri z) (by rw [rst_sent (by rw [erm]; exact hne) f40 (by omega)]; rfl) (by rw [rst_sent (by rw [erm]; exact hne) f40 (by omega)]; rfl) (by rw [rst_sent (by rw [erm]; exact hne) f40 (by omega)]; rfl) (by rw [rst_sent (by rw [erm]; exact hne) f40 (by omega)]; rfl) (by rw [rst_sent (by rw [erm]; exact hne) f40 (by omega), erm]; rfl) (by rw [rst_sent (by rw [erm]; exact hne) f40 (by omega)]; rfl)
        have ps2 : ms + 4 * n' 2 = 4 * n2 2 := ps
        refine main (uc + mc) (us + ms) a2 n2 c2 (by omega) (by rw [p0]; exact q0) (by rw [p1]; exact q1) (by omega) (by omega) (fun k h1 h2 => by rw [pr k (by omega)]; exact hc k h1 h2) (fun x hx => ?_) el
        rw [pr 26 (by decide), h26 x hx, rst_sent (by rw [erm]; exact hne) f40 (by omega)]
        rfl
    · have hom : b_rm ri z = o := by rw [erm]; exact eo.mp w
      rw [rst_home hom] at main
      rw [nI_1]
      refine main uc us a' n' _ (by omega) q0 q1 qs qc (fun k h1 h2 => ?_) (fun x hx => ?_) hL
      · show jm_a c' 26 (nI z) (ri 13 z) k = _
        rw [ja_un _ _ _ h1]; exact hc k h1 h2
      · show upd (c' 26) (nI z).toNatClampNeg (ri 13 z) x = upd (ri 12) z (ri 13 z) x
        rw [tz]
        by_cases e : x = z
        · rw [e, pk_us, pk_us]
        · rw [pk_un e, pk_un e]; exact h26 x hx
