/-! an act in the new house: what it writes at home, what it sends -/
/-- the room of a cell's table -/
def b_rm (r : jm_M) (z : Nat) : Nat := (r 30 (r 4 (z / 8)).toNatClampNeg).toNatClampNeg
/-- reference: what becomes of one cell written -/
def b_rst (o : Nat) (r : jm_M) (z : Nat) : jm_M := if b_rm r z = o then jm_u r 12 (upd (r 12) z (r 13 z)) else jm_u (jm_u (jm_u (jm_u (jm_u (jm_u r 41 (upd (r 41) (r 40 0).toNatClampNeg (nI z))) 42 (upd (r 42) (r 40 0).toNatClampNeg (r 13 z))) 43 (upd (r 43) (r 40 0).toNatClampNeg (nI o))) 44 (upd (r 44) (r 40 0).toNatClampNeg (nI (b_rm r z)))) 45 (upd (r 45) (r 40 0).toNatClampNeg 1)) 40 (upd (r 40) 0 (nI ((r 40 0).toNatClampNeg + 1)))
theorem rst_row (o : Nat) (r : jm_M) (z : Nat) {k : Nat} (h : k ≠ 12) (h2 : k < 40 ∨ 45 < k) : b_rst o r z k = r k := by
  unfold b_rst
  split
  · exact jm_un _ _ h
  · rw [jm_un _ _ (by omega), jm_un _ _ (by omega), jm_un _ _ (by omega), jm_un _ _ (by omega), jm_un _ _ (by omega), jm_un _ _ (by omega)]
def b_rsts (o : Nat) (r : jm_M) (xs : List Nat) : jm_M := xs.foldl (b_rst o) r
theorem rsts_row (o : Nat) (xs : List Nat) : ∀ (r : jm_M) {k : Nat}, k ≠ 12 → (k < 40 ∨ 45 < k) → b_rsts o r xs k = r k := by
  induction xs with
  | nil => intro r k _ _; rfl
  | cons x xs ih =>
    intro r k h h2
    show b_rsts o (b_rst o r x) xs k = r k
    rw [ih (b_rst o r x) h h2, rst_row o r x h h2]
theorem rsts_add (o : Nat) (r : jm_M) (xs : List Nat) (z : Nat) : b_rsts o r (xs ++ [z]) = b_rst o (b_rsts o r xs) z := by
  unfold b_rsts; rw [List.foldl_append]; rfl
theorem rm_same {r r2 : jm_M} (h4 : r2 4 = r 4) (h30 : r2 30 = r 30) (z : Nat) : b_rm r2 z = b_rm r z := by
  unfold b_rm; rw [h4, h30]
/-- how many of the cells are strange -/
def b_str (o : Nat) (r : jm_M) (xs : List Nat) : Nat := (xs.filter (fun z => b_rm r z != o)).length
theorem str_add (o : Nat) (r : jm_M) (xs : List Nat) (z : Nat) : b_str o r (xs ++ [z]) = b_str o r xs + (if b_rm r z = o then 0 else 1) := by
  unfold b_str
  rw [List.filter_append, List.length_append]
  by_cases q : b_rm r z = o <;> simp [q]
theorem str_take (o : Nat) (r : jm_M) (xs : List Nat) : ∀ d i, i + d = xs.length → b_str o r (xs.take i) ≤ b_str o r xs
  | 0, i, hi => by
    obtain rfl : i = xs.length := by omega
    rw [List.take_length]; exact Nat.le_refl _
  | d + 1, i, hi => by
    have h := str_take o r xs d (i + 1) (by omega)
    rw [take_s (by omega), str_add] at h
    omega
theorem str_len (o : Nat) (r : jm_M) (xs : List Nat) : b_str o r xs ≤ xs.length := List.length_filter_le _ _
/-- what the rooms of cells are, in both -/
theorem room_of {M T : Nat} {r : jm_M} (hM : M ≤ 10) (hT16 : T ≤ 16) (h4 : ∀ i, i < T → ∃ h : Nat, h < M ∧ r 4 i = nI h) (h30 : ∀ i, i < 10 → ∃ z : Nat, z < 6 ∧ r 30 i = nI z) {z : Nat} (hz : z < 8 * T) : ∃ h : Nat, h < 10 ∧ z / 8 < T ∧ r 4 (z / 8) = nI h ∧ b_rm r z < 6 ∧ r 30 h = nI (b_rm r z) := by
  obtain ⟨h, hh, eh⟩ := h4 (z / 8) (by omega)
  obtain ⟨p, hp, ep⟩ := h30 h (by omega)
  have e : b_rm r z = p := by unfold b_rm; rw [eh, tn_nI (by omega), ep, tn_nI (by omega)]
  exact ⟨h, by omega, by omega, eh, by omega, by rw [e]; exact ep⟩
theorem kn1 {M T o : Nat} {gd : cm_D} {gj : cm_J} {c r : jm_M} {W : List Nat} (hM : M ≤ 10) (hT16 : T ≤ 16) (h4 : ∀ i, i < T → ∃ h : Nat, h < M ∧ r 4 i = nI h) (h30 : ∀ i, i < 10 → ∃ z : Nat, z < 6 ∧ r 30 i = nI z) (e5 : c 5 = r 4) (e27 : ∀ i, i < 10 → c 27 i = r 30 i) (hW : ∀ z, z ∈ W → z < 8 * T) (hl : W.length ≤ 128) (e21 : c 21 0 = nI W.length) (e17 : ∀ j, j < W.length → c 17 j = nI (W.getD j 0)) (ho : o < 6) (MC MS : Nat) (K : Int32 → Prop) (Post : Int32 → cm_M → Prop) (hK : K (nI (b_str o r W))) : ∀ d i, i + d = W.length → vc_X4_keepNew_14 MC MS (nI o) (gd, gj, c) K Post (d + 1) (nI (b_str o r (W.take i))) (nI i)
  | 0, i, hi => by
    obtain rfl : i = W.length := by omega
    have f21 : ((gd, gj, c) : cm_M).2.2 21 0 = nI W.length := e21
    rw [List.take_length]
    unfold vc_X4_keepNew_14
    rw [f21]
    exact ⟨fun _ => hK, fun w => absurd (nI_le (Nat.le_refl _) (by omega)) w⟩
  | d + 1, i, hi => by
    have hi2 : i < W.length := by omega
    obtain ⟨z, hz⟩ : ∃ z, z = W.getD i 0 := ⟨_, rfl⟩
    have hzW : z ∈ W := by rw [hz]; exact gd_mem hi2
    have hz8 := hW z hzW
    have t1 : (nI i).toNatClampNeg = i := tn_nI (by omega)
    have f21 : ((gd, gj, c) : cm_M).2.2 21 0 = nI W.length := e21
    have f17 : ((gd, gj, c) : cm_M).2.2 17 i = nI z := by rw [hz]; exact e17 i hi2
    have ed : nI z / 8 = nI (z / 8) := pk_div (d := 8) (by omega) (by omega) (by omega)
    have td : (nI (z / 8)).toNatClampNeg = z / 8 := tn_nI (by omega)
    obtain ⟨h, hh, hzT, eh, hp, ep⟩ := room_of hM hT16 h4 h30 hz8
    have th : (nI h).toNatClampNeg = h := tn_nI (by omega)
    have f5 : ((gd, gj, c) : cm_M).2.2 5 (z / 8) = nI h := by show c 5 (z / 8) = _; rw [e5]; exact eh
    have f27 : ((gd, gj, c) : cm_M).2.2 27 h = nI (b_rm r z) := by show c 27 h = _; rw [e27 h hh]; exact ep
    have hts : W.take (i + 1) = W.take i ++ [z] := by rw [hz]; exact take_s hi2
    have main := kn1 (gd := gd) (gj := gj) hM hT16 h4 h30 e5 e27 hW hl e21 e17 ho MC MS K Post hK d (i + 1) (by omega)
    rw [hts, str_add] at main
    have eo : nI (b_rm r z) = nI o ↔ b_rm r z = o := nI_eq (by omega) (by omega)
    unfold vc_X4_keepNew_14
    rw [f21, t1, f17]
    refine ⟨fun w => absurd w (nI_ge hi2 (by omega)), fun _ => ⟨vp_in_nI (by omega) (by omega), ?_⟩⟩
    unfold vc_X4_roomOf
    rw [ed, td, f5, th, f27]
    refine ⟨vp_in_nI (by omega) (by omega), vp_in_nI (by omega) (by omega), fun w => ?_, fun w => ?_⟩
    · rw [if_pos (eo.mp w), Nat.add_zero] at main; rw [nI_1]; exact main
    · rw [if_neg (fun e => w (eo.mpr e))] at main; rw [nI_1, nI_1]; exact main
theorem rn1 {M T o : Nat} {r : jm_M} {W : List Nat} (hM : M ≤ 10) (hT16 : T ≤ 16) (h4 : ∀ i, i < T → ∃ h : Nat, h < M ∧ r 4 i = nI h) (h30 : ∀ i, i < 10 → ∃ z : Nat, z < 6 ∧ r 30 i = nI z) (hW : ∀ z, z ∈ W → z < 8 * T) (hl : W.length ≤ 128) (e17 : r 17 0 = nI W.length) (e18 : ∀ j, j < W.length → r 18 j = nI (W.getD j 0)) (ho : o < 6) (K : Int32 → Prop) (Post : Int32 → jm_M → Prop) (hK : K (nI (b_str o r W))) : ∀ d i, i + d = W.length → vr_runNew_42 (nI o) r K Post (d + 1) (nI (b_str o r (W.take i))) (nI i)
  | 0, i, hi => by
    obtain rfl : i = W.length := by omega
    rw [List.take_length]
    unfold vr_runNew_42
    rw [e17]
    exact ⟨fun _ => hK, fun w => absurd (nI_le (Nat.le_refl _) (by omega)) w⟩
  | d + 1, i, hi => by
    have hi2 : i < W.length := by omega
    obtain ⟨z, hz⟩ : ∃ z, z = W.getD i 0 := ⟨_, rfl⟩
    have hzW : z ∈ W := by rw [hz]; exact gd_mem hi2
    have hz8 := hW z hzW
    have t1 : (nI i).toNatClampNeg = i := tn_nI (by omega)
    have f18 : r 18 i = nI z := by rw [hz]; exact e18 i hi2
    have ed : nI z / 8 = nI (z / 8) := pk_div (d := 8) (by omega) (by omega) (by omega)
    have td : (nI (z / 8)).toNatClampNeg = z / 8 := tn_nI (by omega)
    obtain ⟨h, hh, hzT, eh, hp, ep⟩ := room_of hM hT16 h4 h30 hz8
    have th : (nI h).toNatClampNeg = h := tn_nI (by omega)
    have hts : W.take (i + 1) = W.take i ++ [z] := by rw [hz]; exact take_s hi2
    have main := rn1 hM hT16 h4 h30 hW hl e17 e18 ho K Post hK d (i + 1) (by omega)
    rw [hts, str_add] at main
    have eo : nI (b_rm r z) = nI o ↔ b_rm r z = o := nI_eq (by omega) (by omega)
    unfold vr_runNew_42
    rw [e17, t1, f18, ed, td, eh, th, ep]
    refine ⟨fun w => absurd w (nI_ge hi2 (by omega)), fun _ => ⟨vp_in_nI (by omega) (by omega), vp_in_nI (by omega) (by omega), vp_in_nI (by omega) (by omega), fun w => nm_e ?_, fun w => nm_e ?_⟩⟩
    · rw [if_neg (fun e => w (eo.mpr e))] at main; rw [nI_1, nI_1]; exact main
    · rw [if_pos (eo.mp w), Nat.add_zero] at main; rw [nI_1, show nI (b_str o r (W.take i)) + 0 = nI (b_str o r (W.take i)) from nI_add _ 0]; exact main
theorem rsts_sent {o S : Nat} (hS : S ≤ 2000) : ∀ (xs : List Nat) (r : jm_M), r 40 0 = nI S → S + b_str o r xs ≤ 2000 → b_rsts o r xs 40 0 = nI (S + b_str o r xs)
  | [], r, e, _ => by show r 40 0 = _; rw [e]; rfl
  | x :: xs, r, e, h => by
    have hs : b_str o r (x :: xs) = (if b_rm r x = o then 0 else 1) + b_str o r xs := by
      have := str_add o r [] x
      unfold b_str
      rw [List.filter_cons]
      by_cases q : b_rm r x = o
      · simp [q]
      · simp [q]; omega
    have hsame : b_str o (b_rst o r x) xs = b_str o r xs := by
      unfold b_str
      congr 1
      refine List.filter_congr (fun z _ => ?_)
      rw [rm_same (rst_row o r x (by decide) (by decide)) (rst_row o r x (by decide) (by decide))]
    show b_rsts o (b_rst o r x) xs 40 0 = _
    by_cases q : b_rm r x = o
    · rw [if_pos q] at hs
      have e2 : b_rst o r x 40 0 = nI S := by unfold b_rst; rw [if_pos q]; exact e
      rw [rsts_sent hS xs (b_rst o r x) e2 (by omega), hsame, hs, Nat.zero_add]
    · rw [if_neg q] at hs
      have e2 : b_rst o r x 40 0 = nI (S + 1) := by
        unfold b_rst; rw [if_neg q, jm_uk, pk_us, e, tn_nI (by omega)]
      rw [rsts_sent (S := S + 1) (by omega) xs (b_rst o r x) e2 (by omega), hsame, hs, ← Nat.add_assoc]
theorem rn2 {M T o S : Nat} {r : jm_M} {W : List Nat} (hM : M ≤ 10) (hT16 : T ≤ 16) (h4 : ∀ i, i < T → ∃ h : Nat, h < M ∧ r 4 i = nI h) (h30 : ∀ i, i < 10 → ∃ z : Nat, z < 6 ∧ r 30 i = nI z) (hW : ∀ z, z ∈ W → z < 8 * T) (hl : W.length ≤ 128) (e17 : r 17 0 = nI W.length) (e18 : ∀ j, j < W.length → r 18 j = nI (W.getD j 0)) (ho : o < 6) (hS : S ≤ 2000) (e40 : r 40 0 = nI S) (hstr : S + b_str o r W ≤ 2000) (K : jm_M → Prop) (Post : Int32 → jm_M → Prop) (hK : K (b_rsts o r W)) : ∀ d i, i + d = W.length → vr_runNew_132 (nI o) K Post (d + 1) (nI i) (b_rsts o r (W.take i))
  | 0, i, hi => by
    obtain rfl : i = W.length := by omega
    have f17 : b_rsts o r W 17 0 = nI W.length := by rw [rsts_row _ _ _ (by decide) (by decide)]; exact e17
    rw [List.take_length]
    unfold vr_runNew_132
    rw [f17]
    exact ⟨fun _ => hK, fun w => absurd (nI_le (Nat.le_refl _) (by omega)) w⟩
  | d + 1, i, hi => by
    have hi2 : i < W.length := by omega
    obtain ⟨z, hz⟩ : ∃ z, z = W.getD i 0 := ⟨_, rfl⟩
    have hzW : z ∈ W := by rw [hz]; exact gd_mem hi2
    have hz8 := hW z hzW
    obtain ⟨ri, hri⟩ : ∃ ri, ri = b_rsts o r (W.take i) := ⟨_, rfl⟩
    have row : ∀ {k : Nat}, k ≠ 12 → (k < 40 ∨ 45 < k) → ri k = r k := fun h1 h2 => by rw [hri]; exact rsts_row o _ r h1 h2
    have t1 : (nI i).toNatClampNeg = i := tn_nI (by omega)
    have tz : (nI z).toNatClampNeg = z := tn_nI (by omega)
    have f17 : ri 17 0 = nI W.length := by rw [row (by decide) (by decide)]; exact e17
    have f18 : ri 18 i = nI z := by rw [row (by decide) (by decide), hz]; exact e18 i hi2
    have ed : nI z / 8 = nI (z / 8) := pk_div (d := 8) (by omega) (by omega) (by omega)
    have td : (nI (z / 8)).toNatClampNeg = z / 8 := tn_nI (by omega)
    obtain ⟨h, hh, hzT, eh, hp, ep⟩ := room_of hM hT16 h4 h30 hz8
    have th : (nI h).toNatClampNeg = h := tn_nI (by omega)
    have f4 : ri 4 (z / 8) = nI h := by rw [row (by decide) (by decide)]; exact eh
    have f30 : ri 30 h = nI (b_rm r z) := by rw [row (by decide) (by decide)]; exact ep
    have hts : W.take (i + 1) = W.take i ++ [z] := by rw [hz]; exact take_s hi2
    have main := rn2 hM hT16 h4 h30 hW hl e17 e18 ho hS e40 hstr K Post hK d (i + 1) (by omega)
    rw [hts, rsts_add, ← hri] at main
    have eo : nI (b_rm r z) = nI o ↔ b_rm r z = o := nI_eq (by omega) (by omega)
    have erm : b_rm ri z = b_rm r z := rm_same (row (by decide) (by decide)) (row (by decide) (by decide)) z
    have hst := str_take o r W d (i + 1) (by omega)
    rw [hts, str_add] at hst
    rw [← hri]
    unfold vr_runNew_132
    rw [f17, t1, f18]
    refine ⟨fun w => absurd w (nI_ge hi2 (by omega)), fun _ => ⟨vp_in_nI (by omega) (by omega), nm_e ?_⟩⟩
    rw [ed, td, f4, th, f30]
    refine ⟨vp_in_nI (by omega) (by omega), vp_in_nI (by omega) (by omega), nm_e ⟨fun w => ?_, fun w => ⟨vp_in_nI (by omega) (by omega), vp_in_nI (by omega) (by omega), nm_e ?_⟩⟩⟩
    · have hne : b_rm r z ≠ o := fun e => w (eo.mpr e)
      rw [if_neg hne] at hst
      have hsz : S + b_str o r (W.take i) < 2000 := by omega
      have f40 : ri 40 0 = nI (S + b_str o r (W.take i)) := by rw [hri]; exact rsts_sent hS _ r e40 (by omega)
      have i40 : vp_in (nI (S + b_str o r (W.take i))) 2000 := vp_in_nI hsz (by omega)
      have t40 : (nI (S + b_str o r (W.take i))).toNatClampNeg = S + b_str o r (W.take i) := tn_nI (by omega)
      obtain ⟨S2, hS2⟩ : ∃ S2, S2 = S + b_str o r (W.take i) := ⟨_, rfl⟩
      rw [← hS2] at f40 i40 t40
      rw [f40]
      refine ⟨i40, nm_e ⟨vp_in_nI (by omega) (by omega), ?_⟩⟩
      have a1 : jm_a ri 41 (nI S2) (nI z) 40 0 = nI S2 := f40
      rw [a1]
      refine ⟨i40, nm_e ?_⟩
      have a2 : jm_a (jm_a ri 41 (nI S2) (nI z)) 42 (nI S2) (jm_a ri 41 (nI S2) (nI z) 13 (nI z).toNatClampNeg) 40 0 = nI S2 := f40
      rw [a2]
      refine ⟨i40, nm_e ?_⟩
      have a3 : jm_a (jm_a (jm_a ri 41 (nI S2) (nI z)) 42 (nI S2) (jm_a ri 41 (nI S2) (nI z) 13 (nI z).toNatClampNeg)) 43 (nI S2) (nI o) 40 0 = nI S2 := f40
      rw [a3]
      refine ⟨i40, nm_e ?_⟩
      have a4 : jm_a (jm_a (jm_a (jm_a ri 41 (nI S2) (nI z)) 42 (nI S2) (jm_a ri 41 (nI S2) (nI z) 13 (nI z).toNatClampNeg)) 43 (nI S2) (nI o)) 44 (nI S2) (nI (b_rm r z)) 40 0 = nI S2 := f40
      rw [a4]
      refine ⟨i40, nm_e (nm_e ?_)⟩
      have a5 : jm_a (jm_a (jm_a (jm_a (jm_a ri 41 (nI S2) (nI z)) 42 (nI S2) (jm_a ri 41 (nI S2) (nI z) 13 (nI z).toNatClampNeg)) 43 (nI S2) (nI o)) 44 (nI S2) (nI (b_rm r z))) 45 (nI S2) 1 40 0 = nI S2 := f40
      rw [a5, nI_1, nI_1]
      have e : b_rst o ri z = jm_s (jm_a (jm_a (jm_a (jm_a (jm_a ri 41 (nI S2) (nI z)) 42 (nI S2) (jm_a ri 41 (nI S2) (nI z) 13 (nI z).toNatClampNeg)) 43 (nI S2) (nI o)) 44 (nI S2) (nI (b_rm r z))) 45 (nI S2) 1) 40 (nI (S2 + 1)) := by
        unfold b_rst
        rw [if_neg (by rw [erm]; exact hne), f40, t40, erm]
        show _ = jm_u (jm_u (jm_u (jm_u (jm_u (jm_u ri 41 (upd (ri 41) (nI S2).toNatClampNeg (nI z))) 42 (upd (ri 42) (nI S2).toNatClampNeg (ri 13 (nI z).toNatClampNeg))) 43 (upd (ri 43) (nI S2).toNatClampNeg (nI o))) 44 (upd (ri 44) (nI S2).toNatClampNeg (nI (b_rm r z)))) 45 (upd (ri 45) (nI S2).toNatClampNeg 1)) 40 (upd (ri 40) 0 (nI (S2 + 1)))
        rw [t40, tz]
      rw [e] at main
      exact main
    · have e : b_rst o ri z = jm_a ri 12 (nI z) (ri 13 (nI z).toNatClampNeg) := by
        unfold b_rst
        rw [if_pos (by rw [erm]; exact eo.mp w)]
        show _ = jm_u ri 12 (upd (ri 12) (nI z).toNatClampNeg (ri 13 (nI z).toNatClampNeg))
        rw [tz]
      rw [e] at main
      rw [nI_1]
      exact main
