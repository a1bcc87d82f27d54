/-! ===== what a method makes ===== -/
/-- a world as a plain list of cells -/
def jl_d (w : va_W) : va_W := w
section JJ4
variable {M : Type} {wd : M → va_W} {p : Program} {l : Launch} {e : Env} {R : Room} {s : State} {m : MethodId} {args : Array Value} {below : List Frame} {meth : Method} {c : Code} {D : va_G} {cl : List vw_C} {A : Nat → Prop} {nL cells slots : Nat} {Q : State → Prop} {g : M}
variable {cc : ByteArray} {ret : Option FieldType} {Ts : List Cond} {own : String} {tys : List (ClassId × FieldType)} {pc pc2 : Nat} {lv : List (Nat × Value)} {rest : List Value} {index : Nat} {cs : Nat → ClassId}
theorem jj_widen {k n : Nat} (h1 : cells ≤ k) (h2 : slots ≤ n) (kk : JJ wd p l e R s m args below meth c D cl A nL k n Q pc lv rest g) : JJ wd p l e R s m args below meth c D cl A nL cells slots Q pc lv rest g := fun H locs ls hP hD hS hl => W.widen h1 h2 (kk H locs ls hP hD hS hl)
theorem jj_conv {M2 : Type} {wd2 : M2 → va_W} {g2 : M2} (h : wd g = wd2 g2) (k : JJ wd2 p l e R s m args below meth c D cl A nL cells slots Q pc lv rest g2) : JJ wd p l e R s m args below meth c D cl A nL cells slots Q pc lv rest g := fun H locs ls hP hD hS hl => k H locs ls (h ▸ hP) (h ▸ hD) hS hl
theorem jj_less {M2 : Type} {wd2 : M2 → va_W} {g2 : M2} (is : List Nat) (hn : va_nd is = true) (h : is.map (fun i => (wd g)[i]?) = (wd2 g2).map some) (k : JJ wd2 p l e R s m args below meth c D cl A nL cells slots Q pc lv rest g2) : JJ wd p l e R s m args below meth c D cl A nL cells slots Q pc lv rest g := fun H locs ls hP hD hS hl => k H locs ls (fun j q hj => by
  have h1 : (is.map (fun i => (wd g)[i]?))[j]? = some (some q) := by rw [h, List.getElem?_map, hj]; rfl
  rw [List.getElem?_map] at h1
  cases hi : is[j]? with
  | none => rw [hi] at h1; cases h1
  | some i => rw [hi] at h1; exact hP i q (Option.some.inj h1)) (hD.sub is hn h) hS hl
theorem jj_cls {s : State} {D : va_G} {cl : List vw_C} {cs : Nat → ClassId} {cA : ClassId} (hK : va_K D cl (jt_tys cs ++ [(cA, .int)]) s) : cA = cs 0 := by
  have h0 : s.vm.findClass ("[" ++ FieldType.int.toString) = some (cs 0) := (hK.2 0 (cs 0, .int) rfl).2
  have h4 : s.vm.findClass ("[" ++ FieldType.int.toString) = some cA := (hK.2 4 (cA, .int) rfl).2
  exact Option.some.inj (h4.symm.trans h0)
theorem jj_clsJ {s : State} {D : va_G} {cl : List vw_C} {cs : Nat → ClassId} {cA : ClassId} (hK : va_K D cl (jt_tys cs ++ [(cA, .long)]) s) : cA = cs 1 := by
  have h0 : s.vm.findClass ("[" ++ FieldType.long.toString) = some (cs 1) := (hK.2 1 (cs 1, .long) rfl).2
  have h4 : s.vm.findClass ("[" ++ FieldType.long.toString) = some cA := (hK.2 4 (cA, .long) rfl).2
  exact Option.some.inj (h4.symm.trans h0)
theorem jj_clsZ {s : State} {D : va_G} {cl : List vw_C} {cs : Nat → ClassId} {cA : ClassId} (hK : va_K D cl (jt_tys cs ++ [(cA, .boolean)]) s) : cA = cs 2 := by
  have h0 : s.vm.findClass ("[" ++ FieldType.boolean.toString) = some (cs 2) := (hK.2 2 (cs 2, .boolean) rfl).2
  have h4 : s.vm.findClass ("[" ++ FieldType.boolean.toString) = some cA := (hK.2 4 (cA, .boolean) rfl).2
  exact Option.some.inj (h4.symm.trans h0)
theorem jj_newaI (hC : JC p s m args meth c D cl A nL cc ret Ts own (jt_tys cs)) (ha : Cond.arrayClass .int ∈ Ts) {n : Int32} {N : Nat} (hn : ¬ n < 0) (hN : n.toNatClampNeg = N) (hb : N * 4 ≤ 536870912) (hr : cells + 1 ≤ R.cells ∧ slots + N ≤ R.slots) (hdg : decode cc pc = .ok (.newarray .int, 2)) (hp : pc + 2 = pc2) (kk : ∀ q : Nat, JJ jl_d p l e R s m args below meth c D cl A nL (cells + 1) (slots + N) Q pc2 lv (.ref q :: rest) (wd g ++ [(q, .inl (cs 0, N, .inl (fun _ => 0)))])) : JJ wd p l e R s m args below meth c D cl A nL cells slots Q pc lv (.int n :: rest) g := by
  intro H locs ls hP hD hS hl
  subst hp
  refine va_newa (a0 := (N, .inl (fun _ => 0))) hC.1.1 hC.1.2.1 (atype := .int) (hC.1.2.2.2.2 _ ha) rfl hC.2.1.1 hP hD hS hC.2.2.1 (fun cA => rfl) hn hN hb hr.1 hr.2 hdg (fun q cA H1 hK1 hP1 hD1 hS1 => ?_)
  have e := jj_cls hK1
  subst e
  exact kk q H1 locs ls hP1 hD1 hS1 hl
theorem jj_newaJ (hC : JC p s m args meth c D cl A nL cc ret Ts own (jt_tys cs)) (ha : Cond.arrayClass .long ∈ Ts) {n : Int32} {N : Nat} (hn : ¬ n < 0) (hN : n.toNatClampNeg = N) (hb : N * 8 ≤ 536870912) (hr : cells + 1 ≤ R.cells ∧ slots + N ≤ R.slots) (hdg : decode cc pc = .ok (.newarray .long, 2)) (hp : pc + 2 = pc2) (kk : ∀ q : Nat, JJ jl_d p l e R s m args below meth c D cl A nL (cells + 1) (slots + N) Q pc2 lv (.ref q :: rest) (wd g ++ [(q, .inl (cs 1, N, .inr (.inl (fun _ => 0))))])) : JJ wd p l e R s m args below meth c D cl A nL cells slots Q pc lv (.int n :: rest) g := by
  intro H locs ls hP hD hS hl
  subst hp
  refine va_newa (a0 := (N, .inr (.inl (fun _ => 0)))) hC.1.1 hC.1.2.1 (atype := .long) (hC.1.2.2.2.2 _ ha) rfl hC.2.1.1 hP hD hS hC.2.2.1 (fun cA => rfl) hn hN hb hr.1 hr.2 hdg (fun q cA H1 hK1 hP1 hD1 hS1 => ?_)
  have e := jj_clsJ hK1
  subst e
  exact kk q H1 locs ls hP1 hD1 hS1 hl
theorem jj_newaZ (hC : JC p s m args meth c D cl A nL cc ret Ts own (jt_tys cs)) (ha : Cond.arrayClass .boolean ∈ Ts) {n : Int32} {N : Nat} (hn : ¬ n < 0) (hN : n.toNatClampNeg = N) (hb : N * 1 ≤ 536870912) (hr : cells + 1 ≤ R.cells ∧ slots + N ≤ R.slots) (hdg : decode cc pc = .ok (.newarray .boolean, 2)) (hp : pc + 2 = pc2) (kk : ∀ q : Nat, JJ jl_d p l e R s m args below meth c D cl A nL (cells + 1) (slots + N) Q pc2 lv (.ref q :: rest) (wd g ++ [(q, .inl (cs 2, N, .inl (fun _ => 0)))])) : JJ wd p l e R s m args below meth c D cl A nL cells slots Q pc lv (.int n :: rest) g := by
  intro H locs ls hP hD hS hl
  subst hp
  refine va_newa (a0 := (N, .inl (fun _ => 0))) hC.1.1 hC.1.2.1 (atype := .boolean) (hC.1.2.2.2.2 _ ha) rfl hC.2.1.1 hP hD hS hC.2.2.1 (fun cA => rfl) hn hN hb hr.1 hr.2 hdg (fun q cA H1 hK1 hP1 hD1 hS1 => ?_)
  have e := jj_clsZ hK1
  subst e
  exact kk q H1 locs ls hP1 hD1 hS1 hl
theorem jj_newo (hC : JC p s m args meth c D cl A nL cc ret Ts own tys) {C : String} {T : u_T} {N ci : Nat} (hin : ∀ w ∈ u_ws C T N, w ∈ Ts) (ty : Nat → FieldType) (hty : ∀ k, k < N → parseFieldDescriptor (T k).2.2.1 = some (ty k)) (h1 : Cond.classLink own index C ∈ Ts) (h2 : Cond.instantiable C N ∈ Ts) (h3 : Cond.initialized C ∈ Ts) (hc : cl[ci]? = some (C, T, N)) {fs : List Value} (hfs : ∀ j, j < N → defaultValue (ty j) = vp_V fs j) (hr : cells + 1 ≤ R.cells ∧ slots + N ≤ R.slots) (hdg : decode cc pc = .ok (.new index, 3)) (hp : pc + 3 = pc2) (kk : ∀ q : Nat, JJ jl_d p l e R s m args below meth c D cl A nL (cells + 1) (slots + N) Q pc2 lv (.ref q :: rest) (wd g ++ [(q, .inr (ci, fs))])) : JJ wd p l e R s m args below meth c D cl A nL cells slots Q pc lv rest g := by
  intro H locs ls hP hD hS hl
  subst hp
  exact va_new hC.1.1 hC.1.2.1 hC.1.2.2.2.2 hin ty hty hC.1.2.2.2.1 (hC.1.2.2.2.2 _ h1) (hC.1.2.2.2.2 _ h2) (hC.1.2.2.2.2 _ h3) hC.2.1.1 hP hD hS hC.2.2.1 hc hfs hr.1 hr.2 hdg (fun q H1 hP1 hD1 hS1 => kk q H1 locs ls hP1 hD1 hS1 hl)
/-- any end: the contract out of the walk -/
theorem jj_metG {g0 : M} {Qc : Nat → Array Value → State → Outcome → State → Prop} {y : MethodName} {ws ws2 : List Cond} {rm : Room} {mc ms : Nat} {av : List Value} (hy : plainName y.cls = true) (hw : ws = Cond.code y cc nL ret :: ws2) (hn : (lg_sl av).length ≤ nL) (lv0 : List (Nat × Value)) (hlv : lv_args 0 av = lv0)
    (body : ∀ (p : Program) (e : Env) (s : State) (m : MethodId) (args : Array Value) (below : List Frame) (meth : Method) (c : Code), JC p s m args meth c D cl (va_A (wd g0) s.heap.size) nL cc ret ws y.cls tys → meth.name = y.name →
      JJ wd p l e rm s m args below meth c D cl (va_A (wd g0) s.heap.size) nL 0 0 (MQ below (Qc s.heap.size) args s mc ms (va_A (wd g0) s.heap.size)) 0 lv0 [] g0) (sz : Nat) : Met l y ws rm (va_Pc av (jj_pre wd D cl tys g0 sz)) (Qc sz) mc ms (va_A (wd g0) sz) := by
  refine Met.ofW (cc := cc) (maxL := nL) (ret := ret) hy hw ?_
  intro p e s m args below meth c s₁ B hml hv
  obtain ⟨rfl, hsz, hP, hK, hD0⟩ := hv
  subst hsz
  have hts := atoms_spec (ws := ws) B.pre
  have hown : s.vm.findClass y.cls = some m.cls := findClass_of_methodNamed B.named
  have hnm : meth.name = y.name := (name_of_methodNamed B.named B.method).1
  have hC : JC p s m av.toArray meth c D cl (va_A (wd g0) s.heap.size) nL cc ret ws y.cls tys := ⟨⟨B.exec, B.bytes, hml, hown, hts⟩, hK, fun q h => Or.inr h, B.returns, B.notSynchronized⟩
  have hl := lv_entry av (n := nL) hn
  rw [lg_entry_eq]
  rw [hlv] at hl
  exact body p e s m av.toArray below meth c hC hnm s.heap [] _ hP (hD0.self (sz := s.heap.size)) va_S.rf hl
end JJ4
theorem jl_setL {w : va_W} {c d : Nat × va_E} : (w ++ [c]).set w.length d = w ++ [d] := by
  rw [List.set_append_right _ _ (Nat.le_refl _), Nat.sub_self]; rfl
theorem jl_atL {w : va_W} {c : Nat × va_E} : (w ++ [c])[w.length]? = some c := by
  rw [List.getElem?_append_right (Nat.le_refl _), Nat.sub_self]; rfl
theorem jl_at0 {w L : va_W} {i : Nat} {c : Nat × va_E} (h : w[i]? = some c) : (w ++ L)[i]? = some c := by
  rw [List.getElem?_append_left (List.getElem?_eq_some_iff.mp h).1]; exact h
theorem lk_J7_copyOf_59c91_7 : Cond.arrayClass .int ∈ wsJ7_copyOf_59c91 := List.mem_of_getElem? (i := 7) rfl
theorem lk_J7_copyOf_59c91_8 : Cond.methodLink RJ7 304 Lib.Math.min.name ∈ wsJ7_copyOf_59c91 := List.mem_of_getElem? (i := 8) rfl
theorem lk_J7_copyOf_59c91_9 : Cond.static Lib.Math.min.name ∈ wsJ7_copyOf_59c91 := List.mem_of_getElem? (i := 9) rfl
theorem lk_J7_copyOf_59c91_10 : Cond.initialized "java/lang/Math" ∈ wsJ7_copyOf_59c91 := List.mem_of_getElem? (i := 10) rfl
theorem lk_J7_copyOf_59c91_11 : Cond.code Lib.Math.min.name Lib.Math.min.code 2 (some .int) ∈ wsJ7_copyOf_59c91 := List.mem_of_getElem? (i := 11) rfl
theorem lk_J7_copyOf_59c91_12 : Cond.methodLink RJ7 150 arraycopyName ∈ wsJ7_copyOf_59c91 := List.mem_of_getElem? (i := 12) rfl
theorem lk_J7_copyOf_59c91_13 : Cond.native arraycopyName ∈ wsJ7_copyOf_59c91 := List.mem_of_getElem? (i := 13) rfl
theorem lk_J7_copyOf_59c91_14 : Cond.static arraycopyName ∈ wsJ7_copyOf_59c91 := List.mem_of_getElem? (i := 14) rfl
theorem lk_J7_copyOf_59c91_15 : Cond.initialized "java/lang/System" ∈ wsJ7_copyOf_59c91 := List.mem_of_getElem? (i := 15) rfl
set_option maxHeartbeats 4000000 in
set_option maxRecDepth 100000 in
/-- Arrays.copyOf to a greater length: a new array, its first places the old one's -/
theorem kc_copyOf (l : Launch) (D : va_G) (cs : Nat → ClassId) (ws : va_W) {q0 a n : Nat} {f : Nat → Int32} (he : ws[q0]? = some (a, .inl (cs 0, n, .inl f))) {x : Int32} {N : Nat} (hN : x.toNatClampNeg = N) (h0 : ¬ x < 0) (hne : ¬ x = Int32.ofNat n) (hle : n ≤ N) (hb : N * 4 ≤ 536870912) (sz : Nat) : Met l yJ7_copyOf_59c91 wsJ7_copyOf_59c91 { frames := 1, cells := 1, slots := N, locals := 40 } (va_Pc [.ref a, .int x] (jj_pre jl_d D vwCl (jt_tys cs) ws sz)) (va_Qr (fun _ : Unit => True) (fun _ q t => jj_end jl_d D vwCl (jt_tys cs) ws sz (ws ++ [(q, .inl (cs 0, N, .inl (va_cpy f (fun _ => 0) 0 0 n)))]) t) (va_A ws sz)) 1 N (va_A ws sz) := by
  have hn31 : n < 2 ^ 31 := by omega
  have hx : x.toInt = (N : Int) := by
    have h1 : 0 ≤ x.toInt := by
      rcases Int.lt_or_le x.toInt 0 with h | h
      · exact absurd (Int32.lt_iff_toInt_lt.mpr h) h0
      · exact h
    rw [← hN]
    show x.toInt = ((x.toInt).toNat : Int)
    omega
  have hmin : (if x < Int32.ofNat n then x else Int32.ofNat n) = Int32.ofNat n := by
    refine if_neg (fun h => ?_)
    have h2 := Int32.lt_iff_toInt_lt.mp h
    have h3 : (Int32.ofNat n).toInt = (n : Int) := nI_toInt hn31
    omega
  refine jj_metG (av := [.ref a, .int x]) (rm := { frames := 1, cells := 1, slots := N, locals := 40 }) (y := yJ7_copyOf_59c91) (ws := wsJ7_copyOf_59c91) (wd := jl_d) (g0 := ws) (Qc := fun sz => va_Qr (fun _ : Unit => True) (fun _ q t => jj_end jl_d D vwCl (jt_tys cs) ws sz (ws ++ [(q, .inl (cs 0, N, .inl (va_cpy f (fun _ => 0) 0 0 n)))]) t) (va_A ws sz)) (cc := cJ7_copyOf_59c91) (nL := 3) (ret := (some (.array .int))) (by decide) rfl (Nat.le_of_ble_eq_true rfl) [(0, .ref a), (1, .int x)] rfl ?_ sz
  intro p e s m args below meth c hC hnm
  refine jj_iload_n (pc2 := 1) hC dJ7_copyOf_59c91_0 rfl 1 rfl rfl ?_
  refine jj_aload_n (pc2 := 2) hC dJ7_copyOf_59c91_1 rfl 0 rfl rfl ?_
  refine jj_alen (pc2 := 3) (wd := jl_d) (g := ws) hC q0 0 he rfl dJ7_copyOf_59c91_2 rfl ?_
  refine jj_icmp_ne (pc2 := 6) hC 14 dJ7_copyOf_59c91_3 (by decide) rfl (fun h1 => ?_) (fun h1 => absurd h1 hne)
  refine jj_iload_n (pc2 := 15) hC dJ7_copyOf_59c91_14 rfl 1 rfl rfl ?_
  refine jj_newaI (pc2 := 17) hC lk_J7_copyOf_59c91_7 h0 hN hb ⟨Nat.le_refl 1, show 0 + N ≤ N by omega⟩ dJ7_copyOf_59c91_15 rfl (fun q => ?_)
  refine jj_astore_n (pc2 := 18) hC [(2, .ref q), (0, .ref a), (1, .int x)] dJ7_copyOf_59c91_17 rfl (by decide) rfl rfl ?_
  refine jj_aload_n (pc2 := 19) hC dJ7_copyOf_59c91_18 rfl 1 rfl rfl ?_
  refine jj_iconst (pc2 := 20) hC 0 dJ7_copyOf_59c91_19 (by decide) rfl ?_
  refine jj_aload_n (pc2 := 21) hC dJ7_copyOf_59c91_20 rfl 0 rfl rfl ?_
  refine jj_iconst (pc2 := 22) hC 0 dJ7_copyOf_59c91_21 (by decide) rfl ?_
  refine jj_aload_n (pc2 := 23) hC dJ7_copyOf_59c91_22 rfl 1 rfl rfl ?_
  refine jj_alen (pc2 := 24) (wd := jl_d) (g := ws ++ [(q, .inl (cs 0, N, .inl (fun _ => 0)))]) hC q0 0 (jl_at0 he) rfl dJ7_copyOf_59c91_23 rfl ?_
  refine jj_iload_n (pc2 := 25) hC dJ7_copyOf_59c91_24 rfl 2 rfl rfl ?_
  refine jj_mmin (pc2 := 28) (rest := [.int 0, .ref q, .int 0, .ref a]) hC lk_J7_copyOf_59c91_8 lk_J7_copyOf_59c91_9 lk_J7_copyOf_59c91_10 lk_J7_copyOf_59c91_11 (Nat.le_refl 1) (Nat.le_of_ble_eq_true rfl) ⟨Nat.le_refl 1, show 0 + N ≤ N by omega⟩ dJ7_copyOf_59c91_25 rfl ?_
  rw [show (if x < Int32.ofNat ((n, Sum.inl f) : vp_A).1 then x else Int32.ofNat ((n, Sum.inl f) : vp_A).1) = nI n from hmin]
  refine jj_copyi (pc2 := 31) (wd := jl_d) (g := ws ++ [(q, .inl (cs 0, N, .inl (fun _ => 0)))]) (rest := []) hC lk_J7_copyOf_59c91_12 lk_J7_copyOf_59c91_13 lk_J7_copyOf_59c91_14 lk_J7_copyOf_59c91_15 q0 ws.length 0 (jl_at0 he) jl_atL rfl (by decide) (by decide) (nI_pos hn31) (sN := 0) (dN := 0) (nN := n) (by decide) (by decide) (nI_clamp hn31) (by omega) (by omega) (Nat.le_refl 1) (Nat.le_of_ble_eq_true rfl) (ws ++ [(q, .inl (cs 0, N, .inl (va_cpy f (fun _ => 0) 0 0 n)))]) jl_setL dJ7_copyOf_59c91_28 rfl ?_
  refine jj_aload_n (pc2 := 32) hC dJ7_copyOf_59c91_31 rfl 0 rfl rfl ?_
  refine jj_widen (k := 1) (n := N) (Nat.le_refl 1) (show 0 + N ≤ N by omega) ?_
  exact fun H locs ls hP hD hS hl => W.aret hC.1.1 hC.1.2.1 hC.2.2.2.1 (Or.inr ⟨_, rfl⟩) (Or.inr ⟨_, rfl⟩) (fun t ht hW => ⟨⟨(), q, rfl, trivial, by rw [ht]; exact hP, jk_K.moved hW hC.2.1, hD⟩, hS.F ht⟩) hS.2.2 dJ7_copyOf_59c91_32 hC.2.2.2.2
/-- row d grows: a new address, a new length, new places -/
def cm_grow (g : cm_M) (d k q N : Nat) (f : Nat → Int32) : cm_M := ((va_up g.1.1 d q, va_up g.1.2.1 d N, g.1.2.2), g.2.1, jm_u g.2.2 k f)
theorem jf_mem {P S : va_W} {i : Nat} {c x : Nat × va_E} (h : x ∈ P.set i c ++ S) : x ∈ P ++ (S ++ [c]) := by
  rcases List.mem_append.mp h with h | h
  · rcases List.mem_or_eq_of_mem_set h with h | h
    · exact List.mem_append.mpr (Or.inl h)
    · subst h
      exact List.mem_append.mpr (Or.inr (List.mem_append.mpr (Or.inr (List.mem_singleton.mpr rfl))))
  · exact List.mem_append.mpr (Or.inr (List.mem_append.mpr (Or.inl h)))
theorem jf_P {D : va_G} {cl : List vw_C} {P S : va_W} {i : Nat} {c : Nat × va_E} {H : Heap} (h : va_P D cl (P ++ (S ++ [c])) H) : va_P D cl (P.set i c ++ S) H := fun k q hk => by
  obtain ⟨j, hj⟩ := List.getElem?_of_mem (jf_mem (List.mem_of_getElem? hk))
  exact h j q hj
theorem jf_D {A : Nat → Prop} {P S : va_W} {i : Nat} {c : Nat × va_E} (h : va_D A (P ++ (S ++ [c]))) : va_D A (P.set i c ++ S) := by
  have key : ∀ (k : Nat) (q : Nat × va_E), (P.set i c ++ S)[k]? = some q → (P ++ (S ++ [c]))[if k = i ∧ k < P.length then P.length + S.length else k]? = some q := by
    intro k q hk
    by_cases hl : k < P.length
    · rw [List.getElem?_append_left (by rw [List.length_set]; exact hl)] at hk
      by_cases hi : k = i
      · subst hi
        rw [List.getElem?_set_self hl] at hk
        rw [if_pos ⟨rfl, hl⟩, List.getElem?_append_right (by omega), List.getElem?_append_right (by omega)]
        rw [show P.length + S.length - P.length - S.length = 0 by omega]
        exact hk
      · rw [List.getElem?_set_ne (fun h => hi h.symm)] at hk
        rw [if_neg (fun h => hi h.1), List.getElem?_append_left hl]
        exact hk
    · rw [List.getElem?_append_right (by rw [List.length_set]; omega), List.length_set] at hk
      have hs : k - P.length < S.length := (List.getElem?_eq_some_iff.mp hk).1
      rw [if_neg (fun h => hl h.2), List.getElem?_append_right (by omega), List.getElem?_append_left hs]
      exact hk
  have lt : ∀ (k : Nat) (q : Nat × va_E), (P.set i c ++ S)[k]? = some q → k < P.length + S.length := by
    intro k q hk
    have := (List.getElem?_eq_some_iff.mp hk).1
    rw [List.length_append, List.length_set] at this
    exact this
  refine ⟨fun a b x y ha hb hxy => ?_, fun k q hk => h.2 _ q (key k q hk)⟩
  have e := h.1 _ _ x y (key a x ha) (key b y hb) hxy
  have la := lt a x ha
  have lb := lt b y hb
  by_cases h1 : a = i ∧ a < P.length
  · by_cases h2 : b = i ∧ b < P.length
    · omega
    · rw [if_pos h1, if_neg h2] at e
      omega
  · by_cases h2 : b = i ∧ b < P.length
    · rw [if_neg h1, if_pos h2] at e
      omega
    · rw [if_neg h1, if_neg h2] at e
      exact e
section WG
variable {p : Program} {l : Launch} {e : Env} {R : Room} {s : State} {m : MethodId} {args : Array Value} {below : List Frame} {meth : Method} {c : Code} {D : va_G} {A : Nat → Prop} {nL cells slots : Nat} {Q : State → Prop} {own : String}
variable {cc : ByteArray} {ret : Option FieldType} {Ts : List Cond} {pc pc2 : Nat} {lv : List (Nat × Value)} {rest : List Value} {cs : Nat → ClassId} {Y X : va_W} {ad : Nat → Nat} {g : cm_M} {index : Nat}
theorem wc_dX (Y X : va_W) (cs : Nat → ClassId) (ad : Nat → Nat) (g : cm_M) (L : va_W) : wc_d Y X cs ad g ++ L = wc_d Y (X ++ L) cs ad g := by
  unfold wc_d
  simp only [List.append_assoc]
theorem jf_copy (hC : JC p s m args meth c D vwCl A nL cc ret Ts own (jt_tys cs)) (i : Nat) {a n : Nat} {f : Nat → Int32} (he : (wc_d Y X cs ad g)[i]? = some (a, .inl (cs 0, n, .inl f))) {x : Int32} {N : Nat} (hN : x.toNatClampNeg = N) (h0 : ¬ x < 0) (hne : ¬ x = Int32.ofNat n) (hle : n ≤ N) (hb : N * 4 ≤ 536870912) {bytes : ByteArray} {maxL : Nat} {ret2 : Option FieldType} (cw : CallB R s args own index yJ7_copyOf_59c91 bytes maxL ret2 wsJ7_copyOf_59c91 { frames := 1, cells := 1, slots := N, locals := 40 } 1 N 2 ∧ (Cond.static yJ7_copyOf_59c91).before args s = true) (hW : (rest.map fun v => v.category).sum ≤ 8) (hdg : decode cc pc = .ok (.invokestatic index, 3)) (hf : cells + 1 ≤ R.cells ∧ slots + N ≤ R.slots) (hp : pc + 3 = pc2) (kk : ∀ q : Nat, JJ (wc_d Y (X ++ [(q, .inl (cs 0, N, .inl (va_cpy f (fun _ => 0) 0 0 n)))]) cs ad) p l e R s m args below meth c D vwCl A nL (cells + 1) (slots + N) Q pc2 lv (.ref q :: rest) g) : JJ (wc_d Y X cs ad) p l e R s m args below meth c D vwCl A nL cells slots Q pc lv (.int x :: .ref a :: rest) g := by
  subst hp
  intro H locs ls hP hD hS hl
  have hF : ∀ q, va_A (wc_d Y X cs ad g) H.size q → A q := fun q h => by
    rcases h with ⟨k, e, h⟩ | h
    · exact hD.2 k (q, e) h
    · exact hC.2.2.1 q (Nat.le_trans hS.1 h)
  have fbl : FrameBlind (va_Pc [.ref a, .int x] (jj_pre jl_d D vwCl (jt_tys cs) (wc_d Y X cs ad g) H.size)) := fun a U g mk q => by obtain ⟨q0, q1, qP, qK, qD⟩ := q; exact ⟨q0, q1, qP, jk_K.same (s := U) (U := U.calling g mk a) rfl qK, qD⟩
  have pre : ∀ U : State, U.heap = H → s.WarmedH U.vm → va_Pc [.ref a, .int x] (jj_pre jl_d D vwCl (jt_tys cs) (wc_d Y X cs ad g) H.size) ([.ref a, .int x] : List Value).toArray U := fun U hU hW => ⟨rfl, by rw [hU], by rw [hU]; exact hP, jk_K.moved hW hC.2.1, hD.weaken (fun _ _ _ _ => trivial)⟩
  refine va_callr (va_runS (As := [.ref a, .int x]) (rest := rest) hC.1 (kc_copyOf l D cs (wc_d Y X cs ad g) he hN h0 hne hle hb H.size) cw ⟨fbl, pre⟩ rfl rfl hl.1 rfl (lv_room hW) hdg hf) hS (fun q _ h => hF q h) hF (fun u q t H1 locs1 ht hvm hw hB hz1 hk1 hS1 => ?_)
  obtain ⟨hP1, hK1, hD1⟩ := hB
  rw [ht] at hP1
  have hP2 : va_P D vwCl (wc_d Y X cs ad g ++ [(q, .inl (cs 0, N, .inl (va_cpy f (fun _ => 0) 0 0 n)))]) H1 := hP1
  have hD2 : va_D (va_A (wc_d Y X cs ad g) H.size) (wc_d Y X cs ad g ++ [(q, .inl (cs 0, N, .inl (va_cpy f (fun _ => 0) 0 0 n)))]) := hD1
  rw [wc_dX] at hP2 hD2
  exact kk q H1 locs1 ls hP2 (hD2.weaken (fun _ _ _ h => hF _ h)) hS1 hl
theorem cq_S_masks (hC : JC p s m args meth c D vwCl A nL cc ret Ts own (jt_tys cs)) (hin : ∀ w ∈ u_ws RX3 TX3 3, w ∈ Ts) (hw : Cond.fieldLink own index "PartedHouse$HomeSets" "masks" "[I" ∈ Ts) {q N : Nat} {f : Nat → Int32} (hdg : decode cc pc = .ok (.putfield index, 3)) (hp : pc + 3 = pc2) (kk : ∀ g2 : cm_M, g2 = cm_grow g 0 34 q N f → JJ (wc_d Y X cs ad) p l e R s m args below meth c D vwCl A nL cells slots Q pc2 lv rest g2) : JJ (wc_d Y (X ++ [(q, .inl (cs 0, N, .inl f))]) cs ad) p l e R s m args below meth c D vwCl A nL cells slots Q pc lv (.ref q :: .ref (ad 4) :: rest) g := by
  refine jj_conv (wd2 := jl_d) (g2 := wc_d Y (X ++ [(q, .inl (cs 0, N, .inl f))]) cs ad g) rfl ?_
  refine jj_put (wd := jl_d) hC hin (Y.length + 4) (jx_at (V := wc_W cs ad g) rfl) rfl 0 (by decide) hw rfl tyX3 tyX3_ok nmX3 rfl rfl rfl (Nat.le_of_ble_eq_true rfl) _ rfl hdg hp ?_
  intro H locs ls hP hD hS hl
  have e1 : jl_d ((jl_d (wc_d Y (X ++ [(q, .inl (cs 0, N, .inl f))]) cs ad g)).set (Y.length + 4) (ad 4, .inr (3, [.ref q, .ref (g.1.1 1), .int (g.2.2 36 0)]))) = (Y ++ (wc_W cs ad g).set 4 (ad 4, .inr (3, [.ref q, .ref (g.1.1 1), .int (g.2.2 36 0)]))) ++ ((wc_X cs g.1 ++ X) ++ [(q, .inl (cs 0, N, .inl f))]) := by
    show (Y ++ (wc_W cs ad g ++ (wc_X cs g.1 ++ (X ++ ([(q, .inl (cs 0, N, .inl f))] : va_W))))).set (Y.length + 4) _ = _
    rw [jx_set (V := wc_W cs ad g) (V2 := (wc_W cs ad g).set 4 (ad 4, .inr (3, [.ref q, .ref (g.1.1 1), .int (g.2.2 36 0)]))) (Nat.le_of_ble_eq_true rfl) rfl]
    simp only [List.append_assoc]
  have e2 : (Y ++ (wc_W cs ad g).set 4 (ad 4, .inr (3, [.ref q, .ref (g.1.1 1), .int (g.2.2 36 0)]))).set (Y.length + 35) (q, .inl (cs 0, N, .inl f)) ++ (wc_X cs g.1 ++ X) = wc_d Y X cs ad (cm_grow g 0 34 q N f) := by
    rw [List.set_append_right _ _ (by omega), show Y.length + 35 - Y.length = 35 by omega]
    show _ = Y ++ (wc_W cs ad (cm_grow g 0 34 q N f) ++ (wc_X cs g.1 ++ X))
    rw [List.append_assoc]
    rfl
  have hP : va_P D vwCl (jl_d ((jl_d (wc_d Y (X ++ [(q, .inl (cs 0, N, .inl f))]) cs ad g)).set (Y.length + 4) (ad 4, .inr (3, [.ref q, .ref (g.1.1 1), .int (g.2.2 36 0)])))) H := hP
  have hD : va_D A (jl_d ((jl_d (wc_d Y (X ++ [(q, .inl (cs 0, N, .inl f))]) cs ad g)).set (Y.length + 4) (ad 4, .inr (3, [.ref q, .ref (g.1.1 1), .int (g.2.2 36 0)])))) := hD
  rw [e1] at hP hD
  have hP := jf_P (i := Y.length + 35) hP
  have hD := jf_D (i := Y.length + 35) hD
  rw [e2] at hP hD
  exact kk _ rfl H locs ls hP hD hS hl
theorem cq_S_acts (hC : JC p s m args meth c D vwCl A nL cc ret Ts own (jt_tys cs)) (hin : ∀ w ∈ u_ws RX3 TX3 3, w ∈ Ts) (hw : Cond.fieldLink own index "PartedHouse$HomeSets" "acts" "[I" ∈ Ts) {q N : Nat} {f : Nat → Int32} (hdg : decode cc pc = .ok (.putfield index, 3)) (hp : pc + 3 = pc2) (kk : ∀ g2 : cm_M, g2 = cm_grow g 1 35 q N f → JJ (wc_d Y X cs ad) p l e R s m args below meth c D vwCl A nL cells slots Q pc2 lv rest g2) : JJ (wc_d Y (X ++ [(q, .inl (cs 0, N, .inl f))]) cs ad) p l e R s m args below meth c D vwCl A nL cells slots Q pc lv (.ref q :: .ref (ad 4) :: rest) g := by
  refine jj_conv (wd2 := jl_d) (g2 := wc_d Y (X ++ [(q, .inl (cs 0, N, .inl f))]) cs ad g) rfl ?_
  refine jj_put (wd := jl_d) hC hin (Y.length + 4) (jx_at (V := wc_W cs ad g) rfl) rfl 1 (by decide) hw rfl tyX3 tyX3_ok nmX3 rfl rfl rfl (Nat.le_of_ble_eq_true rfl) _ rfl hdg hp ?_
  intro H locs ls hP hD hS hl
  have e1 : jl_d ((jl_d (wc_d Y (X ++ [(q, .inl (cs 0, N, .inl f))]) cs ad g)).set (Y.length + 4) (ad 4, .inr (3, [.ref (g.1.1 0), .ref q, .int (g.2.2 36 0)]))) = (Y ++ (wc_W cs ad g).set 4 (ad 4, .inr (3, [.ref (g.1.1 0), .ref q, .int (g.2.2 36 0)]))) ++ ((wc_X cs g.1 ++ X) ++ [(q, .inl (cs 0, N, .inl f))]) := by
    show (Y ++ (wc_W cs ad g ++ (wc_X cs g.1 ++ (X ++ ([(q, .inl (cs 0, N, .inl f))] : va_W))))).set (Y.length + 4) _ = _
    rw [jx_set (V := wc_W cs ad g) (V2 := (wc_W cs ad g).set 4 (ad 4, .inr (3, [.ref (g.1.1 0), .ref q, .int (g.2.2 36 0)]))) (Nat.le_of_ble_eq_true rfl) rfl]
    simp only [List.append_assoc]
  have e2 : (Y ++ (wc_W cs ad g).set 4 (ad 4, .inr (3, [.ref (g.1.1 0), .ref q, .int (g.2.2 36 0)]))).set (Y.length + 36) (q, .inl (cs 0, N, .inl f)) ++ (wc_X cs g.1 ++ X) = wc_d Y X cs ad (cm_grow g 1 35 q N f) := by
    rw [List.set_append_right _ _ (by omega), show Y.length + 36 - Y.length = 36 by omega]
    show _ = Y ++ (wc_W cs ad (cm_grow g 1 35 q N f) ++ (wc_X cs g.1 ++ X))
    rw [List.append_assoc]
    rfl
  have hP : va_P D vwCl (jl_d ((jl_d (wc_d Y (X ++ [(q, .inl (cs 0, N, .inl f))]) cs ad g)).set (Y.length + 4) (ad 4, .inr (3, [.ref (g.1.1 0), .ref q, .int (g.2.2 36 0)])))) H := hP
  have hD : va_D A (jl_d ((jl_d (wc_d Y (X ++ [(q, .inl (cs 0, N, .inl f))]) cs ad g)).set (Y.length + 4) (ad 4, .inr (3, [.ref (g.1.1 0), .ref q, .int (g.2.2 36 0)])))) := hD
  rw [e1] at hP hD
  have hP := jf_P (i := Y.length + 36) hP
  have hD := jf_D (i := Y.length + 36) hD
  rw [e2] at hP hD
  exact kk _ rfl H locs ls hP hD hS hl
theorem cq_L_addresses (hC : JC p s m args meth c D vwCl A nL cc ret Ts own (jt_tys cs)) (hin : ∀ w ∈ u_ws RX6 TX6 5, w ∈ Ts) (hw : Cond.fieldLink own index "PartedHouse$Letters" "addresses" "[I" ∈ Ts) {q N : Nat} {f : Nat → Int32} (hdg : decode cc pc = .ok (.putfield index, 3)) (hp : pc + 3 = pc2) (kk : ∀ g2 : cm_M, g2 = cm_grow g 2 37 q N f → JJ (wc_d Y X cs ad) p l e R s m args below meth c D vwCl A nL cells slots Q pc2 lv rest g2) : JJ (wc_d Y (X ++ [(q, .inl (cs 0, N, .inl f))]) cs ad) p l e R s m args below meth c D vwCl A nL cells slots Q pc lv (.ref q :: .ref (ad 5) :: rest) g := by
  refine jj_conv (wd2 := jl_d) (g2 := wc_d Y (X ++ [(q, .inl (cs 0, N, .inl f))]) cs ad g) rfl ?_
  refine jj_put (wd := jl_d) hC hin (Y.length + 5) (jx_at (V := wc_W cs ad g) rfl) rfl 0 (by decide) hw rfl tyX6 tyX6_ok nmX6 rfl rfl rfl (Nat.le_of_ble_eq_true rfl) _ rfl hdg hp ?_
  intro H locs ls hP hD hS hl
  have e1 : jl_d ((jl_d (wc_d Y (X ++ [(q, .inl (cs 0, N, .inl f))]) cs ad g)).set (Y.length + 5) (ad 5, .inr (6, [.ref q, .ref (g.1.1 3), .ref (ad 39), .int (g.2.2 40 0), .int (g.2.2 41 0)]))) = (Y ++ (wc_W cs ad g).set 5 (ad 5, .inr (6, [.ref q, .ref (g.1.1 3), .ref (ad 39), .int (g.2.2 40 0), .int (g.2.2 41 0)]))) ++ ((wc_X cs g.1 ++ X) ++ [(q, .inl (cs 0, N, .inl f))]) := by
    show (Y ++ (wc_W cs ad g ++ (wc_X cs g.1 ++ (X ++ ([(q, .inl (cs 0, N, .inl f))] : va_W))))).set (Y.length + 5) _ = _
    rw [jx_set (V := wc_W cs ad g) (V2 := (wc_W cs ad g).set 5 (ad 5, .inr (6, [.ref q, .ref (g.1.1 3), .ref (ad 39), .int (g.2.2 40 0), .int (g.2.2 41 0)]))) (Nat.le_of_ble_eq_true rfl) rfl]
    simp only [List.append_assoc]
  have e2 : (Y ++ (wc_W cs ad g).set 5 (ad 5, .inr (6, [.ref q, .ref (g.1.1 3), .ref (ad 39), .int (g.2.2 40 0), .int (g.2.2 41 0)]))).set (Y.length + 37) (q, .inl (cs 0, N, .inl f)) ++ (wc_X cs g.1 ++ X) = wc_d Y X cs ad (cm_grow g 2 37 q N f) := by
    rw [List.set_append_right _ _ (by omega), show Y.length + 37 - Y.length = 37 by omega]
    show _ = Y ++ (wc_W cs ad (cm_grow g 2 37 q N f) ++ (wc_X cs g.1 ++ X))
    rw [List.append_assoc]
    rfl
  have hP : va_P D vwCl (jl_d ((jl_d (wc_d Y (X ++ [(q, .inl (cs 0, N, .inl f))]) cs ad g)).set (Y.length + 5) (ad 5, .inr (6, [.ref q, .ref (g.1.1 3), .ref (ad 39), .int (g.2.2 40 0), .int (g.2.2 41 0)])))) H := hP
  have hD : va_D A (jl_d ((jl_d (wc_d Y (X ++ [(q, .inl (cs 0, N, .inl f))]) cs ad g)).set (Y.length + 5) (ad 5, .inr (6, [.ref q, .ref (g.1.1 3), .ref (ad 39), .int (g.2.2 40 0), .int (g.2.2 41 0)])))) := hD
  rw [e1] at hP hD
  have hP := jf_P (i := Y.length + 37) hP
  have hD := jf_D (i := Y.length + 37) hD
  rw [e2] at hP hD
  exact kk _ rfl H locs ls hP hD hS hl
theorem cq_L_says (hC : JC p s m args meth c D vwCl A nL cc ret Ts own (jt_tys cs)) (hin : ∀ w ∈ u_ws RX6 TX6 5, w ∈ Ts) (hw : Cond.fieldLink own index "PartedHouse$Letters" "says" "[I" ∈ Ts) {q N : Nat} {f : Nat → Int32} (hdg : decode cc pc = .ok (.putfield index, 3)) (hp : pc + 3 = pc2) (kk : ∀ g2 : cm_M, g2 = cm_grow g 3 38 q N f → JJ (wc_d Y X cs ad) p l e R s m args below meth c D vwCl A nL cells slots Q pc2 lv rest g2) : JJ (wc_d Y (X ++ [(q, .inl (cs 0, N, .inl f))]) cs ad) p l e R s m args below meth c D vwCl A nL cells slots Q pc lv (.ref q :: .ref (ad 5) :: rest) g := by
  refine jj_conv (wd2 := jl_d) (g2 := wc_d Y (X ++ [(q, .inl (cs 0, N, .inl f))]) cs ad g) rfl ?_
  refine jj_put (wd := jl_d) hC hin (Y.length + 5) (jx_at (V := wc_W cs ad g) rfl) rfl 1 (by decide) hw rfl tyX6 tyX6_ok nmX6 rfl rfl rfl (Nat.le_of_ble_eq_true rfl) _ rfl hdg hp ?_
  intro H locs ls hP hD hS hl
  have e1 : jl_d ((jl_d (wc_d Y (X ++ [(q, .inl (cs 0, N, .inl f))]) cs ad g)).set (Y.length + 5) (ad 5, .inr (6, [.ref (g.1.1 2), .ref q, .ref (ad 39), .int (g.2.2 40 0), .int (g.2.2 41 0)]))) = (Y ++ (wc_W cs ad g).set 5 (ad 5, .inr (6, [.ref (g.1.1 2), .ref q, .ref (ad 39), .int (g.2.2 40 0), .int (g.2.2 41 0)]))) ++ ((wc_X cs g.1 ++ X) ++ [(q, .inl (cs 0, N, .inl f))]) := by
    show (Y ++ (wc_W cs ad g ++ (wc_X cs g.1 ++ (X ++ ([(q, .inl (cs 0, N, .inl f))] : va_W))))).set (Y.length + 5) _ = _
    rw [jx_set (V := wc_W cs ad g) (V2 := (wc_W cs ad g).set 5 (ad 5, .inr (6, [.ref (g.1.1 2), .ref q, .ref (ad 39), .int (g.2.2 40 0), .int (g.2.2 41 0)]))) (Nat.le_of_ble_eq_true rfl) rfl]
    simp only [List.append_assoc]
  have e2 : (Y ++ (wc_W cs ad g).set 5 (ad 5, .inr (6, [.ref (g.1.1 2), .ref q, .ref (ad 39), .int (g.2.2 40 0), .int (g.2.2 41 0)]))).set (Y.length + 38) (q, .inl (cs 0, N, .inl f)) ++ (wc_X cs g.1 ++ X) = wc_d Y X cs ad (cm_grow g 3 38 q N f) := by
    rw [List.set_append_right _ _ (by omega), show Y.length + 38 - Y.length = 38 by omega]
    show _ = Y ++ (wc_W cs ad (cm_grow g 3 38 q N f) ++ (wc_X cs g.1 ++ X))
    rw [List.append_assoc]
    rfl
  have hP : va_P D vwCl (jl_d ((jl_d (wc_d Y (X ++ [(q, .inl (cs 0, N, .inl f))]) cs ad g)).set (Y.length + 5) (ad 5, .inr (6, [.ref (g.1.1 2), .ref q, .ref (ad 39), .int (g.2.2 40 0), .int (g.2.2 41 0)])))) H := hP
  have hD : va_D A (jl_d ((jl_d (wc_d Y (X ++ [(q, .inl (cs 0, N, .inl f))]) cs ad g)).set (Y.length + 5) (ad 5, .inr (6, [.ref (g.1.1 2), .ref q, .ref (ad 39), .int (g.2.2 40 0), .int (g.2.2 41 0)])))) := hD
  rw [e1] at hP hD
  have hP := jf_P (i := Y.length + 38) hP
  have hD := jf_D (i := Y.length + 38) hD
  rw [e2] at hP hD
  exact kk _ rfl H locs ls hP hD hS hl
end WG
