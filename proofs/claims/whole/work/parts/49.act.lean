theorem swc_0 {g7 : cm_M} {y1 y8 y9 : Int32} {Post : Int32 → cm_M → Prop} (h : (∀ g11 : cm_M, g11 = cm_s g7 24 y8 → (Post 1 g11))) : b_swc g7 y1 y8 y9 0 Post := ⟨fun q => absurd q (by decide), fun _ => h, fun q => absurd q (by decide), fun q => absurd q (by decide), fun q => absurd q (by decide), fun q => absurd q (by decide), fun q => absurd q (by decide), fun q => absurd q (by decide), fun q => absurd q (by decide), fun q => absurd q (by decide)⟩
theorem swc_1 {g7 : cm_M} {y1 y8 y9 : Int32} {Post : Int32 → cm_M → Prop} (h : (∀ g12 : cm_M, g12 = cm_s g7 24 ((g7.2.2 24 0) + y8) → (Post 1 g12))) : b_swc g7 y1 y8 y9 1 Post := ⟨fun q => absurd q (by decide), fun q => absurd q (by decide), fun _ => h, fun q => absurd q (by decide), fun q => absurd q (by decide), fun q => absurd q (by decide), fun q => absurd q (by decide), fun q => absurd q (by decide), fun q => absurd q (by decide), fun q => absurd q (by decide)⟩
theorem swc_2 {g7 : cm_M} {y1 y8 y9 : Int32} {Post : Int32 → cm_M → Prop} (h : ((vp_in y9 128) ∧ (∀ g13 : cm_M, g13 = cm_s g7 24 (g7.2.2 15 y9.toNatClampNeg) → (Post 1 g13)))) : b_swc g7 y1 y8 y9 2 Post := ⟨fun q => absurd q (by decide), fun q => absurd q (by decide), fun q => absurd q (by decide), fun _ => h, fun q => absurd q (by decide), fun q => absurd q (by decide), fun q => absurd q (by decide), fun q => absurd q (by decide), fun q => absurd q (by decide), fun q => absurd q (by decide)⟩
theorem swc_3 {g7 : cm_M} {y1 y8 y9 : Int32} {Post : Int32 → cm_M → Prop} (h : (vc_X0_write y9 g7 (fun (g15 : cm_M) => Post 1 g15))) : b_swc g7 y1 y8 y9 3 Post := ⟨fun q => absurd q (by decide), fun q => absurd q (by decide), fun q => absurd q (by decide), fun q => absurd q (by decide), fun _ => h, fun q => absurd q (by decide), fun q => absurd q (by decide), fun q => absurd q (by decide), fun q => absurd q (by decide), fun q => absurd q (by decide)⟩
theorem swc_4 {g7 : cm_M} {y1 y8 y9 : Int32} {Post : Int32 → cm_M → Prop} (h : (vc_X0_enter y8 g7 (fun (r16 : Int32) (g17 : cm_M) => (jj_nb r16) ∧ (Post r16 g17)))) : b_swc g7 y1 y8 y9 4 Post := ⟨fun q => absurd q (by decide), fun q => absurd q (by decide), fun q => absurd q (by decide), fun q => absurd q (by decide), fun q => absurd q (by decide), fun _ => h, fun q => absurd q (by decide), fun q => absurd q (by decide), fun q => absurd q (by decide), fun q => absurd q (by decide)⟩
theorem swc_5 {g7 : cm_M} {y1 y8 y9 : Int32} {Post : Int32 → cm_M → Prop} (h : (((¬ (g7.2.2 24 0) = 0) → (Post 1 g7)) ∧ (((g7.2.2 24 0) = 0) → ((vp_in y1 8) ∧ ((vp_in y1 8) ∧ (∀ g19 : cm_M, g19 = cm_a g7 20 y1 ((g7.2.2 20 y1.toNatClampNeg) + y8) → (Post 1 g19))))))) : b_swc g7 y1 y8 y9 5 Post := ⟨fun q => absurd q (by decide), fun q => absurd q (by decide), fun q => absurd q (by decide), fun q => absurd q (by decide), fun q => absurd q (by decide), fun q => absurd q (by decide), fun _ => h, fun q => absurd q (by decide), fun q => absurd q (by decide), fun q => absurd q (by decide)⟩
theorem swc_6 {g7 : cm_M} {y1 y8 y9 : Int32} {Post : Int32 → cm_M → Prop} (h : ((((g7.2.2 24 0) < 0) → (Post 0 g7)) ∧ ((¬ (g7.2.2 24 0) < 0) → (Post 1 g7)))) : b_swc g7 y1 y8 y9 6 Post := ⟨fun q => absurd q (by decide), fun q => absurd q (by decide), fun q => absurd q (by decide), fun q => absurd q (by decide), fun q => absurd q (by decide), fun q => absurd q (by decide), fun q => absurd q (by decide), fun _ => h, fun q => absurd q (by decide), fun q => absurd q (by decide)⟩
theorem swc_7 {g7 : cm_M} {y1 y8 y9 : Int32} {Post : Int32 → cm_M → Prop} (h : ((vp_in y9 128) ∧ (∀ g21 : cm_M, g21 = cm_s g7 24 ((g7.2.2 24 0) + (g7.2.2 15 y9.toNatClampNeg)) → (Post 1 g21)))) : b_swc g7 y1 y8 y9 7 Post := ⟨fun q => absurd q (by decide), fun q => absurd q (by decide), fun q => absurd q (by decide), fun q => absurd q (by decide), fun q => absurd q (by decide), fun q => absurd q (by decide), fun q => absurd q (by decide), fun q => absurd q (by decide), fun _ => h, fun q => absurd q (by decide)⟩
theorem swc_8 {g7 : cm_M} {y1 y8 y9 : Int32} {Post : Int32 → cm_M → Prop} (h : ((vp_in y9 128) ∧ (∀ g22 : cm_M, g22 = cm_s g7 24 ((g7.2.2 24 0) - (g7.2.2 15 y9.toNatClampNeg)) → (Post 1 g22)))) : b_swc g7 y1 y8 y9 8 Post := ⟨fun q => absurd q (by decide), fun q => absurd q (by decide), fun q => absurd q (by decide), fun q => absurd q (by decide), fun q => absurd q (by decide), fun q => absurd q (by decide), fun q => absurd q (by decide), fun q => absurd q (by decide), fun q => absurd q (by decide), fun _ => h⟩
theorem m4_next {N D1 n' : Nat} {c r c' r' : jm_M} (h : b_m4 N (D1 + 1) c r) (hn : n' ≤ 31) (e23 : c' 23 = c 23) (e19 : c' 19 = c 19) (e20 : r' 20 = r 20) (f20 : c' 20 = upd (c 20) D1 (nI n')) (f21 : r' 21 = upd (r 21) D1 (nI n')) : b_m4 N (D1 + 1) c' r' := by
  obtain ⟨h1, h2, h3⟩ := h
  refine ⟨h1, by rw [e23]; exact h2, fun j hj => ?_⟩
  obtain ⟨i, n, a1, a2, a3, a4, a5, a6⟩ := h3 j hj
  rw [e19, e20, f20, f21]
  by_cases q : j = D1
  · subst q; exact ⟨i, n', a1, hn, a3, a4, pk_us, pk_us⟩
  · rw [pk_un q, pk_un q]; exact ⟨i, n, a1, a2, a3, a4, a5, a6⟩
theorem m4_push {N D1 n' p : Nat} {c r c' r' : jm_M} (h : b_m4 N (D1 + 1) c r) (hD : D1 + 1 < 8) (hp : p < N) (hn : n' ≤ 31) (e23 : c' 23 0 = nI (D1 + 2)) (e19 : c' 19 = upd (c 19) (D1 + 1) (nI p)) (e20 : r' 20 = upd (r 20) (D1 + 1) (nI p)) (f20 : c' 20 = upd (upd (c 20) D1 (nI n')) (D1 + 1) 0) (f21 : r' 21 = upd (upd (r 21) D1 (nI n')) (D1 + 1) 0) : b_m4 N (D1 + 2) c' r' := by
  obtain ⟨h1, h2, h3⟩ := h
  refine ⟨by omega, e23, fun j hj => ?_⟩
  rw [e19, e20, f20, f21]
  by_cases q : j = D1 + 1
  · subst q; exact ⟨p, 0, hp, by omega, pk_us, pk_us, pk_us, pk_us⟩
  · obtain ⟨i, n, a1, a2, a3, a4, a5, a6⟩ := h3 j (by omega)
    rw [pk_un q, pk_un q, pk_un q, pk_un q]
    by_cases w : j = D1
    · subst w; exact ⟨i, n', a1, hn, a3, a4, pk_us, pk_us⟩
    · rw [pk_un w, pk_un w]; exact ⟨i, n, a1, a2, a3, a4, a5, a6⟩
theorem m1_put {h : Nat → Int32} {W W2 : List Nat} {c r c' r' : jm_M} {k : Nat} {v : Int32} (hm : b_m1 h W c r) (hk : k ∈ W2) (hs : ∀ i, i ∉ W2 → i ∉ W) (e15 : c' 15 = upd (c 15) k v) (e13 : r' 13 = upd (r 13) k v) : b_m1 h W2 c' r' := by
  intro i hi
  rw [e15, e13]
  by_cases q : i = k
  · subst q; rw [pk_us, pk_us]; exact ⟨rfl, fun w => absurd hk w⟩
  · rw [pk_un q, pk_un q]; exact ⟨(hm i hi).1, fun w => (hm i hi).2 (hs i w)⟩
theorem m2_new {T k : Nat} {W : List Nat} {c r c' r' : jm_M} (hm : b_m2 T W c r) (hk : k < 8 * T) (hn : k ∉ W) (c21 : c' 21 0 = nI (W.length + 1)) (r17 : r' 17 0 = nI (W.length + 1)) (c17 : c' 17 = upd (c 17) W.length (nI k)) (r18 : r' 18 = upd (r 18) W.length (nI k)) (c16 : c' 16 = upd (c 16) k 1) (r19 : r' 19 = upd (r 19) k 1) : b_m2 T (W ++ [k]) c' r' := by
  obtain ⟨h1, h2, h3, h4, h5, h6⟩ := hm
  have hl : (W ++ [k]).length = W.length + 1 := by simp
  refine ⟨?_, fun z hz => ?_, by rw [c21, hl], by rw [r17, hl], fun j hj => ?_, fun z hz => ?_⟩
  · rw [List.nodup_append]
    exact ⟨h1, by simp, fun a ha b hb => by rw [List.mem_singleton] at hb; subst hb; exact fun e => hn (e ▸ ha)⟩
  · rcases List.mem_append.mp hz with q | q
    · exact h2 z q
    · rw [List.mem_singleton] at q; omega
  · rw [hl] at hj
    rw [c17, r18, gd_app]
    by_cases q : j = W.length
    · rw [if_pos q, q, pk_us, pk_us]; exact ⟨rfl, rfl⟩
    · rw [if_neg q, pk_un q, pk_un q]; exact h5 j (by omega)
  · rw [c16, r19]
    by_cases q : z = k
    · subst q; rw [pk_us, pk_us]; simp
    · rw [pk_un q, pk_un q]
      have : (z ∈ W ++ [k]) ↔ z ∈ W := by simp [q]
      simp only [this]
      exact h6 z hz
