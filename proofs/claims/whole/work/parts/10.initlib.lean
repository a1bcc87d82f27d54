/-! ===== worlds as lists: the method's own cells P, all else X ===== -/
def jp_d (X P : va_W) : va_W := P ++ X
theorem vd_left {A : Nat → Prop} {P X : va_W} (h : va_D A (P ++ X)) : va_D A P := by
  have key : ∀ (k : Nat) (q : Nat × va_E), P[k]? = some q → (P ++ X)[k]? = some q := fun k q hk => by
    rw [List.getElem?_append_left (List.getElem?_eq_some_iff.mp hk).1]; exact hk
  exact ⟨fun i j x y hi hj e => h.1 i j x y (key i x hi) (key j y hj) e, fun k q hk => h.2 k q (key k q hk)⟩
theorem vd_right {A : Nat → Prop} {P X : va_W} (h : va_D A (P ++ X)) : va_D A X := by
  have key : ∀ (k : Nat) (q : Nat × va_E), X[k]? = some q → (P ++ X)[P.length + k]? = some q := fun k q hk => by
    rw [List.getElem?_append_right (by omega), show P.length + k - P.length = k by omega]; exact hk
  exact ⟨fun i j x y hi hj e => by have := h.1 _ _ x y (key i x hi) (key j y hj) e; omega, fun k q hk => h.2 _ q (key k q hk)⟩
theorem vd_cross {A : Nat → Prop} {P X : va_W} (h : va_D A (P ++ X)) : ∀ (i j : Nat) (p q : Nat × va_E), P[i]? = some p → X[j]? = some q → p.1 ≠ q.1 := by
  intro i j p q hi hj e
  have hl := (List.getElem?_eq_some_iff.mp hi).1
  have := h.1 i (P.length + j) p q (by rw [List.getElem?_append_left hl]; exact hi) (by rw [List.getElem?_append_right (by omega), show P.length + j - P.length = j by omega]; exact hj) e
  omega
theorem vp_left {D : va_G} {cl : List vw_C} {P X : va_W} {H : Heap} (h : va_P D cl (P ++ X) H) : va_P D cl P H := fun k q hk => h k q (by rw [List.getElem?_append_left (List.getElem?_eq_some_iff.mp hk).1]; exact hk)
theorem vp_right {D : va_G} {cl : List vw_C} {P X : va_W} {H : Heap} (h : va_P D cl (P ++ X) H) : va_P D cl X H := fun k q hk => h (P.length + k) q (by rw [List.getElem?_append_right (by omega), show P.length + k - P.length = k by omega]; exact hk)
/-- two parts change their places -/
theorem vd_comm {A : Nat → Prop} {P X : va_W} (h : va_D A (P ++ X)) : va_D A (X ++ P) := va_D.app (vd_right h) (vd_left h) (fun i j p q hi hj e => vd_cross h j i q p hj hi e.symm)
theorem vp_comm {D : va_G} {cl : List vw_C} {P X : va_W} {H : Heap} (h : va_P D cl (P ++ X) H) : va_P D cl (X ++ P) H := va_P.app (vp_right h) (vp_left h)
/-- the second of three goes last -/
theorem vd_push {A : Nat → Prop} {P X N : va_W} (h : va_D A ((P ++ X) ++ N)) : va_D A ((P ++ N) ++ X) := by
  have h1 : va_D A (P ++ (X ++ N)) := by rw [← List.append_assoc]; exact h
  have h2 : va_D A (P ++ (N ++ X)) := va_D.app (vd_left h1) (vd_comm (vd_right h1)) (fun i j p q hi hj e => by
    obtain ⟨k, hk⟩ := List.getElem?_of_mem (show q ∈ X ++ N by
      rcases List.mem_append.mp (List.mem_of_getElem? hj) with z | z
      · exact List.mem_append.mpr (Or.inr z)
      · exact List.mem_append.mpr (Or.inl z))
    exact vd_cross h1 i k p q hi hk e)
  rw [List.append_assoc]; exact h2
theorem vp_push {D : va_G} {cl : List vw_C} {P X N : va_W} {H : Heap} (h : va_P D cl ((P ++ X) ++ N) H) : va_P D cl ((P ++ N) ++ X) H := va_P.app (va_P.app (vp_left (vp_left h)) (vp_right h)) (vp_right (vp_left h))
/-- some cells of the first part, in any order -/
theorem vd_sub {A : Nat → Prop} {P P2 X : va_W} (h : va_D A (P ++ X)) (is : List Nat) (hn : va_nd is = true) (hs : is.map (fun i => P[i]?) = P2.map some) : va_D A (P2 ++ X) := by
  refine va_D.app ((vd_left h).sub is hn hs) (vd_right h) (fun i j p q hi hj e => ?_)
  have h1 : (is.map (fun i => P[i]?))[i]? = some (some p) := by rw [hs, List.getElem?_map, hi]; rfl
  rw [List.getElem?_map] at h1
  cases hk : is[i]? with
  | none => rw [hk] at h1; cases h1
  | some k => rw [hk] at h1; exact vd_cross h k j p q (Option.some.inj h1) hj e
theorem vp_sub {D : va_G} {cl : List vw_C} {P P2 X : va_W} {H : Heap} (h : va_P D cl (P ++ X) H) (is : List Nat) (hs : is.map (fun i => P[i]?) = P2.map some) : va_P D cl (P2 ++ X) H := by
  refine va_P.app (fun i p hi => ?_) (vp_right h)
  have h1 : (is.map (fun i => P[i]?))[i]? = some (some p) := by rw [hs, List.getElem?_map, hi]; rfl
  rw [List.getElem?_map] at h1
  cases hk : is[i]? with
  | none => rw [hk] at h1; cases h1
  | some k => rw [hk] at h1; exact vp_left h k p (Option.some.inj h1)
section JP
variable {M : Type} {wd : M → va_W} {p : Program} {l : Launch} {e : Env} {R : Room} {s : State} {m : MethodId} {args : Array Value} {below : List Frame} {meth : Method} {c : Code} {D : va_G} {cl : List vw_C} {A : Nat → Prop} {nL cells slots : Nat} {Q : State → Prop} {g : M} {X L : va_W}
variable {cc : ByteArray} {ret : Option FieldType} {Ts : List Cond} {own : String} {tys : List (ClassId × FieldType)} {pc pc2 : Nat} {lv : List (Nat × Value)} {rest : List Value} {index : Nat} {cs : Nat → ClassId}
theorem jp_sub (P2 : va_W) (is : List Nat) (hn : va_nd is = true) (hs : is.map (fun i => L[i]?) = P2.map some) (k : JJ (jp_d X) p l e R s m args below meth c D cl A nL cells slots Q pc lv rest P2) : JJ (jp_d X) p l e R s m args below meth c D cl A nL cells slots Q pc lv rest L := fun H locs ls hP hD hS hl => k H locs ls (vp_sub hP is hs) (vd_sub hD is hn hs) hS hl
theorem jp_out (P2 N : va_W) (h : L = P2 ++ N) (k : JJ (jp_d (N ++ X)) p l e R s m args below meth c D cl A nL cells slots Q pc lv rest P2) : JJ (jp_d X) p l e R s m args below meth c D cl A nL cells slots Q pc lv rest L := by
  subst h
  refine jj_conv (wd2 := jp_d (N ++ X)) (g2 := P2) ?_ k
  exact List.append_assoc P2 N X
theorem jp_in {N : va_W} (P2 : va_W) (h : L ++ N = P2) (k : JJ (jp_d X) p l e R s m args below meth c D cl A nL cells slots Q pc lv rest P2) : JJ (jp_d (N ++ X)) p l e R s m args below meth c D cl A nL cells slots Q pc lv rest L := by
  subst h
  refine jj_conv (wd2 := jp_d X) (g2 := L ++ N) ?_ k
  exact (List.append_assoc L N X).symm
theorem jp_newI (hC : JC p s m args meth c D cl A nL cc ret Ts own (jt_tys cs)) (ha : Cond.arrayClass .int ∈ Ts) {n : Int32} {N : Nat} (hn : ¬ n < 0) (hN : n.toNatClampNeg = N) (hb : N * 4 ≤ 536870912) (hr : cells + 1 ≤ R.cells ∧ slots + N ≤ R.slots) (hdg : decode cc pc = .ok (.newarray .int, 2)) (hp : pc + 2 = pc2) (P2 : Nat → va_W) (h2 : ∀ q : Nat, L ++ [(q, .inl (cs 0, N, .inl (fun _ => 0)))] = P2 q) (kk : ∀ q : Nat, JJ (jp_d X) p l e R s m args below meth c D cl A nL (cells + 1) (slots + N) Q pc2 lv (.ref q :: rest) (P2 q)) : JJ (jp_d X) p l e R s m args below meth c D cl A nL cells slots Q pc lv (.int n :: rest) L := by
  refine jj_newaI hC ha hn hN hb hr hdg hp (fun q => ?_)
  intro H locs ls hP hD hS hl
  have k := kk q
  rw [← h2 q] at k
  exact k H locs ls (vp_push hP) (vd_push hD) hS hl
theorem jp_newJ (hC : JC p s m args meth c D cl A nL cc ret Ts own (jt_tys cs)) (ha : Cond.arrayClass .long ∈ Ts) {n : Int32} {N : Nat} (hn : ¬ n < 0) (hN : n.toNatClampNeg = N) (hb : N * 8 ≤ 536870912) (hr : cells + 1 ≤ R.cells ∧ slots + N ≤ R.slots) (hdg : decode cc pc = .ok (.newarray .long, 2)) (hp : pc + 2 = pc2) (P2 : Nat → va_W) (h2 : ∀ q : Nat, L ++ [(q, .inl (cs 1, N, .inr (.inl (fun _ => 0))))] = P2 q) (kk : ∀ q : Nat, JJ (jp_d X) p l e R s m args below meth c D cl A nL (cells + 1) (slots + N) Q pc2 lv (.ref q :: rest) (P2 q)) : JJ (jp_d X) p l e R s m args below meth c D cl A nL cells slots Q pc lv (.int n :: rest) L := by
  refine jj_newaJ hC ha hn hN hb hr hdg hp (fun q => ?_)
  intro H locs ls hP hD hS hl
  have k := kk q
  rw [← h2 q] at k
  exact k H locs ls (vp_push hP) (vd_push hD) hS hl
theorem jp_newZ (hC : JC p s m args meth c D cl A nL cc ret Ts own (jt_tys cs)) (ha : Cond.arrayClass .boolean ∈ Ts) {n : Int32} {N : Nat} (hn : ¬ n < 0) (hN : n.toNatClampNeg = N) (hb : N * 1 ≤ 536870912) (hr : cells + 1 ≤ R.cells ∧ slots + N ≤ R.slots) (hdg : decode cc pc = .ok (.newarray .boolean, 2)) (hp : pc + 2 = pc2) (P2 : Nat → va_W) (h2 : ∀ q : Nat, L ++ [(q, .inl (cs 2, N, .inl (fun _ => 0)))] = P2 q) (kk : ∀ q : Nat, JJ (jp_d X) p l e R s m args below meth c D cl A nL (cells + 1) (slots + N) Q pc2 lv (.ref q :: rest) (P2 q)) : JJ (jp_d X) p l e R s m args below meth c D cl A nL cells slots Q pc lv (.int n :: rest) L := by
  refine jj_newaZ hC ha hn hN hb hr hdg hp (fun q => ?_)
  intro H locs ls hP hD hS hl
  have k := kk q
  rw [← h2 q] at k
  exact k H locs ls (vp_push hP) (vd_push hD) hS hl
theorem jp_newO (hC : JC p s m args meth c D cl A nL cc ret Ts own tys) {C : String} {T : u_T} {N ci : Nat} (hin : ∀ w ∈ u_ws C T N, w ∈ Ts) (ty : Nat → FieldType) (hty : ∀ k, k < N → parseFieldDescriptor (T k).2.2.1 = some (ty k)) (h1 : Cond.classLink own index C ∈ Ts) (h2 : Cond.instantiable C N ∈ Ts) (h3 : Cond.initialized C ∈ Ts) (hc : cl[ci]? = some (C, T, N)) {fs : List Value} (hfs : ∀ j, j < N → defaultValue (ty j) = vp_V fs j) (hr : cells + 1 ≤ R.cells ∧ slots + N ≤ R.slots) (hdg : decode cc pc = .ok (.new index, 3)) (hp : pc + 3 = pc2) (P2 : Nat → va_W) (h4 : ∀ q : Nat, L ++ [(q, .inr (ci, fs))] = P2 q) (kk : ∀ q : Nat, JJ (jp_d X) p l e R s m args below meth c D cl A nL (cells + 1) (slots + N) Q pc2 lv (.ref q :: rest) (P2 q)) : JJ (jp_d X) p l e R s m args below meth c D cl A nL cells slots Q pc lv rest L := by
  refine jj_newo hC hin ty hty h1 h2 h3 hc hfs hr hdg hp (fun q => ?_)
  intro H locs ls hP hD hS hl
  have k := kk q
  rw [← h4 q] at k
  exact k H locs ls (vp_push hP) (vd_push hD) hS hl
theorem jp_newQ (hC : JC p s m args meth c D cl A nL cc ret Ts own (jt_tys cs)) (h1 : Cond.classLink own index "PartedHouse$Houses" ∈ Ts) {n : Int32} {N : Nat} (hn : ¬ n < 0) (hN : n.toNatClampNeg = N) (hb : N * 4 ≤ 536870912) (hr : cells + 1 ≤ R.cells ∧ slots + N ≤ R.slots) (hdg : decode cc pc = .ok (.anewarray index, 3)) (hp : pc + 3 = pc2) (P2 : Nat → va_W) (h2 : ∀ q : Nat, L ++ [(q, .inl (cs 3, N, .inr (.inr (.inr (.inr (fun _ => none))))))] = P2 q) (kk : ∀ q : Nat, JJ (jp_d X) p l e R s m args below meth c D cl A nL (cells + 1) (slots + N) Q pc2 lv (.ref q :: rest) (P2 q)) : JJ (jp_d X) p l e R s m args below meth c D cl A nL cells slots Q pc lv (.int n :: rest) L := by
  intro H locs ls hP hD hS hl
  subst hp
  refine va_newq hC.1.1 hC.1.2.1 hC.1.2.2.2.1 (hC.1.2.2.2.2 _ h1) hC.2.1.2.2 hC.2.1.1 hP hD hS hC.2.2.1 hn hN hb hr.1 hr.2 hdg (fun q cA H1 hK1 hP1 hD1 hS1 => ?_)
  have e : cA = cs 3 := by
    obtain ⟨kA, comp, k1, k2, k3, k4⟩ := (hK1.2 3 (cs 3, .object "PartedHouse$Houses") rfl).2
    obtain ⟨kA', comp', k1', k2', k3', k4'⟩ := (hK1.2 4 (cA, .object "PartedHouse$Houses") rfl).2
    exact Option.some.inj (k4'.symm.trans k4)
  subst e
  have k := kk q
  rw [← h2 q] at k
  exact k H1 locs ls (vp_push hP1) (vd_push hD1) hS1 hl
theorem jj_objInit (hC : JC p s m args meth c D cl A nL cc ret Ts own tys) (h1 : Cond.methodLink own index objectInit ∈ Ts) (h2 : Cond.instanceMethod objectInit ∈ Ts) (h3 : Cond.code objectInit ⟨#[0xb1]⟩ 1 none ∈ Ts) {a : Nat} (hdg : decode cc pc = .ok (.invokespecial index, 3)) (hf : 1 ≤ R.frames) (hlo : (rest.map fun v => v.category).sum + 12 ≤ R.locals) (hp : pc + 3 = pc2) (kk : JJ wd p l e R s m args below meth c D cl A nL cells slots Q pc2 lv rest g) : JJ wd p l e R s m args below meth c D cl A nL cells slots Q pc lv (.ref a :: rest) g := fun H locs ls hP hD hS hl => by
  subst hp
  refine W.objInit hC.1.1 hC.1.2.1 hC.1.2.2.2.1 (hC.1.2.2.2.2 _ h1) (hC.1.2.2.2.2 _ h2) (hC.1.2.2.2.2 _ h3) rfl (hl.1.trans hC.1.2.2.1.symm) rfl hdg hf (by show 2 * 0 + _ + 12 ≤ _; omega) ?_
  exact kk H locs ls hP hD hS hl
theorem jj_callIVN (hC : JC p s m args meth c D cl A nL cc ret Ts own tys) {y : MethodName} {ws : List Cond} {rm : Room} {mc ms maxL n : Nat} {bytes : ByteArray} {host : String} {b : Nat} {As : List Value} {Post : M → Prop} (hM : JV wd D cl tys l y ws rm mc ms (.ref b :: As) g Post) (cw : va_CN R s args own index y host bytes maxL none ws rm mc ms n ∧ y.name = "<init>" ∧ (Cond.instanceMethod y).before args s = true) (hn : As.length = n) (hW : (rest.map fun v => v.category).sum ≤ 8) (st0 : List Value) (hst : st0 = (As.reverse ++ .ref b :: rest)) (hdg : decode cc pc = .ok (.invokespecial index, 3)) (hf : cells + mc ≤ R.cells ∧ slots + ms ≤ R.slots) (hp : pc + 3 = pc2) (kk : ∀ (g2 : M), Post g2 → JJ wd p l e R s m args below meth c D cl A nL (cells + mc) (slots + ms) Q pc2 lv rest g2) : JJ wd p l e R s m args below meth c D cl A nL cells slots Q pc lv st0 g := by
  subst hst
  subst hp
  intro H locs ls hP hD hS hl
  have hF : ∀ q, va_A (wd g) H.size q → A q := fun q h => by
    rcases h with ⟨k, e, h⟩ | h
    · exact hD.2 k (q, e) h
    · exact hC.2.2.1 q (Nat.le_trans hS.1 h)
  have fbl : FrameBlind (va_Pc (.ref b :: As) (jj_pre wd D cl tys g H.size)) := fun a U g mk q => by obtain ⟨q0, q1, qP, qK, qD⟩ := q; exact ⟨q0, q1, qP, jk_K.same (s := U) (U := U.calling g mk a) rfl qK, qD⟩
  have pre : ∀ U : State, U.heap = H → s.WarmedH U.vm → va_Pc (.ref b :: As) (jj_pre wd D cl tys g H.size) (Value.ref b :: As).toArray U := fun U hU hW => ⟨rfl, by rw [hU], by rw [hU]; exact hP, jk_K.moved hW hC.2.1, hD.weaken (fun _ _ _ _ => trivial)⟩
  refine va_callv (va_runIN (As := As) (rest := rest) hC.1 (hM H.size) cw ⟨fbl, pre⟩ rfl hn hl.1 rfl (lv_room hW) hdg hf) hS (fun q _ h => hF q h) hF (fun g2 t H1 locs1 ht hvm hw hB hz1 hk1 hS1 => ?_)
  obtain ⟨hP1, hK1, hD1⟩ := hB
  rw [ht] at hP1
  exact kk g2 hw H1 locs1 ls hP1 (hD1.weaken (fun _ _ _ h => hF _ h)) hS1 hl
end JP
theorem jp_fill_loop {p : Program} {l : Launch} {e : Env} {s : State} {m : MethodId} {args : Array Value} {below : List Frame} {meth : Method} {c : Code} {D : va_G} {cs : Nat → ClassId} {X : va_W} {A : Nat → Prop} {R : Room} {Q : State → Prop} (hC : JC p s m args meth c D vwCl A 4 cJ7_fill_53178 none wsJ7_fill_53178 RJ7 (jt_tys cs)) {a n : Nat} (hn : n < 2 ^ 31) (v : Int32) (hK : ∀ f : Nat → Int32, (∀ i, i < n → f i = v) → JJ (jp_d X) p l e R s m args below meth c D vwCl A 4 0 0 Q 20 [(0, .ref a), (1, .int v), (2, .int (nI n)), (3, .int (nI n))] [] [(a, .inl (cs 0, n, .inl f))]) : ∀ (k i : Nat) (f : Nat → Int32), i + k = n → (∀ j, j < i → f j = v) → JJ (jp_d X) p l e R s m args below meth c D vwCl A 4 0 0 Q 5 [(0, .ref a), (1, .int v), (2, .int (nI i)), (3, .int (nI n))] [] [(a, .inl (cs 0, n, .inl f))] := by
  intro k
  induction k with
  | zero =>
    intro i f hi hf
    obtain rfl : i = n := by omega
    refine jj_iload_n (pc2 := 6) hC dJ7_fill_53178_5 rfl 2 rfl rfl ?_
    refine jj_iload_n (pc2 := 7) hC dJ7_fill_53178_6 rfl 3 rfl rfl ?_
    refine jj_icmp_ge (pc2 := 10) hC 20 dJ7_fill_53178_7 (by decide) rfl (fun h => ?_) (fun h => absurd (nI_le (Nat.le_refl i) hn) h)
    exact hK f hf
  | succ k ih =>
    intro i f hi hf
    refine jj_iload_n (pc2 := 6) hC dJ7_fill_53178_5 rfl 2 rfl rfl ?_
    refine jj_iload_n (pc2 := 7) hC dJ7_fill_53178_6 rfl 3 rfl rfl ?_
    refine jj_icmp_ge (pc2 := 10) hC 20 dJ7_fill_53178_7 (by decide) rfl (fun h => absurd h (nI_ge (by omega) hn)) (fun h => ?_)
    refine jj_aload_n (pc2 := 11) hC dJ7_fill_53178_10 rfl 0 rfl rfl ?_
    refine jj_iload_n (pc2 := 12) hC dJ7_fill_53178_11 rfl 2 rfl rfl ?_
    refine jj_iload_n (pc2 := 13) hC dJ7_fill_53178_12 rfl 1 rfl rfl ?_
    refine jj_iast (pc2 := 14) (wd := jp_d X) hC 0 0 rfl rfl (vp_in_nI (by omega) hn) [(a, .inl (cs 0, n, .inl (upd f (nI i).toNatClampNeg v)))] rfl dJ7_fill_53178_13 rfl ?_
    refine jj_iinc (pc2 := 17) hC (nI (i + 1)) [(2, .int (nI (i + 1))), (0, .ref a), (1, .int v), (3, .int (nI n))] dJ7_fill_53178_14 2 rfl (nI_1 i) (by decide) rfl rfl ?_
    refine jj_goto hC 5 dJ7_fill_53178_17 (by decide) ?_
    refine jj_sub (lv2 := [(0, .ref a), (1, .int v), (2, .int (nI (i + 1))), (3, .int (nI n))]) [1, 2, 0, 3] rfl (ih (i + 1) _ (by omega) (fun j hj => ?_))
    rw [nI_clamp (by omega)]
    by_cases e : j = i
    · subst e; exact pk_us
    · rw [pk_un e]; exact hf j (by omega)
abbrev rm_fillL : Room := { frames := 0, cells := 0, slots := 0, locals := 0 }
theorem kp_fill (l : Launch) (D : va_G) (cs : Nat → ClassId) (X : va_W) (a n : Nat) (hn : n < 2 ^ 31) (v : Int32) (f : Nat → Int32) : JV (jp_d X) D vwCl (jt_tys cs) l yJ7_fill_53178 wsJ7_fill_53178 rm_fillL 0 0 [.ref a, .int v] [(a, .inl (cs 0, n, .inl f))] (fun w => ∃ f2 : Nat → Int32, (∀ i, i < n → f2 i = v) ∧ w = [(a, .inl (cs 0, n, .inl f2))]) := by
  refine jj_metV (cc := cJ7_fill_53178) (nL := 4) (ret := none) (by decide) rfl (Nat.le_of_ble_eq_true rfl) [(0, .ref a), (1, .int v)] rfl ?_
  intro p e s m args below meth c hC hnm
  refine jj_iconst (pc2 := 1) hC 0 dJ7_fill_53178_0 (by decide) rfl ?_
  refine jj_istore_n (pc2 := 2) hC [(2, .int 0), (0, .ref a), (1, .int v)] dJ7_fill_53178_1 rfl (by decide) rfl rfl ?_
  refine jj_aload_n (pc2 := 3) hC dJ7_fill_53178_2 rfl 1 rfl rfl ?_
  refine jj_alen (pc2 := 4) (wd := jp_d X) hC 0 0 rfl rfl dJ7_fill_53178_3 rfl ?_
  refine jj_istore_n (pc2 := 5) hC [(3, .int (nI n)), (2, .int 0), (0, .ref a), (1, .int v)] dJ7_fill_53178_4 rfl (by decide) rfl rfl ?_
  refine jj_sub (lv2 := [(0, .ref a), (1, .int v), (2, .int (nI 0)), (3, .int (nI n))]) [2, 3, 1, 0] rfl ?_
  refine jp_fill_loop hC hn v (fun f2 hf2 => ?_) n 0 f (by omega) (fun j hj => absurd hj (Nat.not_lt_zero j))
  exact jj_vret hC dJ7_fill_53178_20 ⟨f2, hf2, rfl⟩
