/-! THE CLAIM OUT OF ONE WALK OF THE LAW'S BODY. Your part is whole_start (and what it stands on); all else here is the same for every law, but numbers. -/
def R_law : String := "PartedHouseLaw"
def lw_P (b : Addr) (xs : List Int32) (args : Array Value) (s : State) : Prop := args = #[.ref b] ∧ s.IntsAt b xs ∧ xs.length ≤ 2560 ∧ (Jvm.Cond.and given_1 narrow_1).before args s = true
def lw_Q (_ : Array Value) (s : State) (o : Outcome) (t : State) : Prop := o = .returned (some (.int 1)) ∧ Framed s o t [] 600000 7302250
def lw_Z (below : List Frame) (a : Array Value) (s : State) : State → Prop := fun t => ∃ o, t.status = .running ∧ Ended t below o ∧ lw_Q a s o t
/-- the law's own end, with 1 on the stack, nothing written that was there before, its room as the claim has it -/
theorem lw_ret {p : Program} {l : Launch} {e : Env} {s : State} {m : MethodId} {below : List Frame} {meth : Method} {c : Code} {b : Nat} (hx : p.tables.exec = Jvm.exec) (hb : c.code = code) (hr : meth.sig.returnType = ret) (hlocks : meth.locks = false) {pc : Nat} {H : Heap} {ls : Array Slot} (hdg : decode code pc = .ok (.ireturn, 1)) : W p l e room_1 s m #[Value.ref b] below meth c H [] 600000 7302250 (lw_Z below #[Value.ref b] s) (F0 m pc ls [.int 1]) := by
  intro T hT X
  obtain ⟨fs, hret, hrun, hended, hW, hframe⟩ := X.leave (v := some (.int 1)) (hlocks := hlocks) (fun h => by rw [hr] at h; cases h)
  have hmeth' : T.vm.method? m = some meth := X.method'
  refine ⟨T.setFrames fs, ?_, .returned (some (.int 1)), hrun, hended, rfl, ⟨_, rfl⟩, hW, hframe⟩
  jvm_step X.here [X.here.top, hx, hb, hdg, hmeth', hr, ret, narrow_b1]
  (try refine ⟨rfl, ?_⟩); (try refine ⟨rfl, ?_⟩)
  first | (intro acts; rw [hret _ acts rfl rfl rfl]) | rw [hret _ _ rfl rfl rfl]
  exact Steps.refl _
/-- what holds at the law's entry: the machine, the code, the tables' words (any of lw_tbl by 'hts w (by decide +kernel)'), the script of L ints xs at the cell b, what the Statement gives of the start (any of its parts by flat_of_before) -/
def lw_At (p : Program) (s : State) (m : MethodId) (meth : Method) (c : Code) (b L : Nat) (xs : Nat → Int32) : Prop :=
  p.tables.exec = Jvm.exec ∧ c.code = code ∧ meth.sig.returnType = ret ∧ c.maxLocals = 4 ∧ s.vm.findClass R_law = some m.cls ∧ (∀ w ∈ lw_tbl, w.before #[Value.ref b] s = true) ∧ va_X b L xs s s.heap ∧ b < s.heap.size ∧ meth.locks = false ∧ (Jvm.Cond.and given_1 narrow_1).before #[Value.ref b] s = true
abbrev cl_M : Type := cm_M × jm_M
def wl_d (cs : Nat → ClassId) (ad ad2 : Nat → Nat) (g : cl_M) : va_W := wc_W cs ad g.1 ++ (wc_X cs g.1.1 ++ wr_W cs ad2 g.2)
theorem wl_c (cs : Nat → ClassId) (ad ad2 : Nat → Nat) (gc : cm_M) (gr : jm_M) : wl_d cs ad ad2 (gc, gr) = wc_d [] (wr_W cs ad2 gr) cs ad gc := rfl
theorem wl_r (cs : Nat → ClassId) (ad ad2 : Nat → Nat) (gc : cm_M) (gr : jm_M) : wl_d cs ad ad2 (gc, gr) = wr_d (wc_W cs ad gc ++ wc_X cs gc.1) [] cs ad2 gr := by
  unfold wl_d wr_d
  simp only [List.append_assoc, List.append_nil]
theorem jl_sw (x : Int32) (h : ¬ (x.toInt < 0 ∨ 32 < x.toInt)) : x = 0 ∨ x = 1 ∨ x = 2 ∨ x = 3 ∨ x = 4 ∨ x = 5 ∨ x = 6 ∨ x = 7 ∨ x = 8 ∨ x = 9 ∨ x = 10 ∨ x = 11 ∨ x = 12 ∨ x = 13 ∨ x = 14 ∨ x = 15 ∨ x = 16 ∨ x = 17 ∨ x = 18 ∨ x = 19 ∨ x = 20 ∨ x = 21 ∨ x = 22 ∨ x = 23 ∨ x = 24 ∨ x = 25 ∨ x = 26 ∨ x = 27 ∨ x = 28 ∨ x = 29 ∨ x = 30 ∨ x = 31 ∨ x = 32 := by
  have h2 : x.toInt = 0 ∨ x.toInt = 1 ∨ x.toInt = 2 ∨ x.toInt = 3 ∨ x.toInt = 4 ∨ x.toInt = 5 ∨ x.toInt = 6 ∨ x.toInt = 7 ∨ x.toInt = 8 ∨ x.toInt = 9 ∨ x.toInt = 10 ∨ x.toInt = 11 ∨ x.toInt = 12 ∨ x.toInt = 13 ∨ x.toInt = 14 ∨ x.toInt = 15 ∨ x.toInt = 16 ∨ x.toInt = 17 ∨ x.toInt = 18 ∨ x.toInt = 19 ∨ x.toInt = 20 ∨ x.toInt = 21 ∨ x.toInt = 22 ∨ x.toInt = 23 ∨ x.toInt = 24 ∨ x.toInt = 25 ∨ x.toInt = 26 ∨ x.toInt = 27 ∨ x.toInt = 28 ∨ x.toInt = 29 ∨ x.toInt = 30 ∨ x.toInt = 31 ∨ x.toInt = 32 := by omega
  rcases h2 with q | q | q | q | q | q | q | q | q | q | q | q | q | q | q | q | q | q | q | q | q | q | q | q | q | q | q | q | q | q | q | q | q
  · exact Or.inl (Int32.toInt_inj.mp q)
  · exact Or.inr (Or.inl (Int32.toInt_inj.mp q))
  · exact Or.inr (Or.inr (Or.inl (Int32.toInt_inj.mp q)))
  · exact Or.inr (Or.inr (Or.inr (Or.inl (Int32.toInt_inj.mp q))))
  · exact Or.inr (Or.inr (Or.inr (Or.inr (Or.inl (Int32.toInt_inj.mp q)))))
  · exact Or.inr (Or.inr (Or.inr (Or.inr (Or.inr (Or.inl (Int32.toInt_inj.mp q))))))
  · exact Or.inr (Or.inr (Or.inr (Or.inr (Or.inr (Or.inr (Or.inl (Int32.toInt_inj.mp q)))))))
  · exact Or.inr (Or.inr (Or.inr (Or.inr (Or.inr (Or.inr (Or.inr (Or.inl (Int32.toInt_inj.mp q))))))))
  · exact Or.inr (Or.inr (Or.inr (Or.inr (Or.inr (Or.inr (Or.inr (Or.inr (Or.inl (Int32.toInt_inj.mp q)))))))))
  · exact Or.inr (Or.inr (Or.inr (Or.inr (Or.inr (Or.inr (Or.inr (Or.inr (Or.inr (Or.inl (Int32.toInt_inj.mp q))))))))))
  · exact Or.inr (Or.inr (Or.inr (Or.inr (Or.inr (Or.inr (Or.inr (Or.inr (Or.inr (Or.inr (Or.inl (Int32.toInt_inj.mp q)))))))))))
  · exact Or.inr (Or.inr (Or.inr (Or.inr (Or.inr (Or.inr (Or.inr (Or.inr (Or.inr (Or.inr (Or.inr (Or.inl (Int32.toInt_inj.mp q))))))))))))
  · exact Or.inr (Or.inr (Or.inr (Or.inr (Or.inr (Or.inr (Or.inr (Or.inr (Or.inr (Or.inr (Or.inr (Or.inr (Or.inl (Int32.toInt_inj.mp q)))))))))))))
  · exact Or.inr (Or.inr (Or.inr (Or.inr (Or.inr (Or.inr (Or.inr (Or.inr (Or.inr (Or.inr (Or.inr (Or.inr (Or.inr (Or.inl (Int32.toInt_inj.mp q))))))))))))))
  · exact Or.inr (Or.inr (Or.inr (Or.inr (Or.inr (Or.inr (Or.inr (Or.inr (Or.inr (Or.inr (Or.inr (Or.inr (Or.inr (Or.inr (Or.inl (Int32.toInt_inj.mp q)))))))))))))))
  · exact Or.inr (Or.inr (Or.inr (Or.inr (Or.inr (Or.inr (Or.inr (Or.inr (Or.inr (Or.inr (Or.inr (Or.inr (Or.inr (Or.inr (Or.inr (Or.inl (Int32.toInt_inj.mp q))))))))))))))))
  · exact Or.inr (Or.inr (Or.inr (Or.inr (Or.inr (Or.inr (Or.inr (Or.inr (Or.inr (Or.inr (Or.inr (Or.inr (Or.inr (Or.inr (Or.inr (Or.inr (Or.inl (Int32.toInt_inj.mp q)))))))))))))))))
  · exact Or.inr (Or.inr (Or.inr (Or.inr (Or.inr (Or.inr (Or.inr (Or.inr (Or.inr (Or.inr (Or.inr (Or.inr (Or.inr (Or.inr (Or.inr (Or.inr (Or.inr (Or.inl (Int32.toInt_inj.mp q))))))))))))))))))
  · exact Or.inr (Or.inr (Or.inr (Or.inr (Or.inr (Or.inr (Or.inr (Or.inr (Or.inr (Or.inr (Or.inr (Or.inr (Or.inr (Or.inr (Or.inr (Or.inr (Or.inr (Or.inr (Or.inl (Int32.toInt_inj.mp q)))))))))))))))))))
  · exact Or.inr (Or.inr (Or.inr (Or.inr (Or.inr (Or.inr (Or.inr (Or.inr (Or.inr (Or.inr (Or.inr (Or.inr (Or.inr (Or.inr (Or.inr (Or.inr (Or.inr (Or.inr (Or.inr (Or.inl (Int32.toInt_inj.mp q))))))))))))))))))))
  · exact Or.inr (Or.inr (Or.inr (Or.inr (Or.inr (Or.inr (Or.inr (Or.inr (Or.inr (Or.inr (Or.inr (Or.inr (Or.inr (Or.inr (Or.inr (Or.inr (Or.inr (Or.inr (Or.inr (Or.inr (Or.inl (Int32.toInt_inj.mp q)))))))))))))))))))))
  · exact Or.inr (Or.inr (Or.inr (Or.inr (Or.inr (Or.inr (Or.inr (Or.inr (Or.inr (Or.inr (Or.inr (Or.inr (Or.inr (Or.inr (Or.inr (Or.inr (Or.inr (Or.inr (Or.inr (Or.inr (Or.inr (Or.inl (Int32.toInt_inj.mp q))))))))))))))))))))))
  · exact Or.inr (Or.inr (Or.inr (Or.inr (Or.inr (Or.inr (Or.inr (Or.inr (Or.inr (Or.inr (Or.inr (Or.inr (Or.inr (Or.inr (Or.inr (Or.inr (Or.inr (Or.inr (Or.inr (Or.inr (Or.inr (Or.inr (Or.inl (Int32.toInt_inj.mp q)))))))))))))))))))))))
  · exact Or.inr (Or.inr (Or.inr (Or.inr (Or.inr (Or.inr (Or.inr (Or.inr (Or.inr (Or.inr (Or.inr (Or.inr (Or.inr (Or.inr (Or.inr (Or.inr (Or.inr (Or.inr (Or.inr (Or.inr (Or.inr (Or.inr (Or.inr (Or.inl (Int32.toInt_inj.mp q))))))))))))))))))))))))
  · exact Or.inr (Or.inr (Or.inr (Or.inr (Or.inr (Or.inr (Or.inr (Or.inr (Or.inr (Or.inr (Or.inr (Or.inr (Or.inr (Or.inr (Or.inr (Or.inr (Or.inr (Or.inr (Or.inr (Or.inr (Or.inr (Or.inr (Or.inr (Or.inr (Or.inl (Int32.toInt_inj.mp q)))))))))))))))))))))))))
  · exact Or.inr (Or.inr (Or.inr (Or.inr (Or.inr (Or.inr (Or.inr (Or.inr (Or.inr (Or.inr (Or.inr (Or.inr (Or.inr (Or.inr (Or.inr (Or.inr (Or.inr (Or.inr (Or.inr (Or.inr (Or.inr (Or.inr (Or.inr (Or.inr (Or.inr (Or.inl (Int32.toInt_inj.mp q))))))))))))))))))))))))))
  · exact Or.inr (Or.inr (Or.inr (Or.inr (Or.inr (Or.inr (Or.inr (Or.inr (Or.inr (Or.inr (Or.inr (Or.inr (Or.inr (Or.inr (Or.inr (Or.inr (Or.inr (Or.inr (Or.inr (Or.inr (Or.inr (Or.inr (Or.inr (Or.inr (Or.inr (Or.inr (Or.inl (Int32.toInt_inj.mp q)))))))))))))))))))))))))))
  · exact Or.inr (Or.inr (Or.inr (Or.inr (Or.inr (Or.inr (Or.inr (Or.inr (Or.inr (Or.inr (Or.inr (Or.inr (Or.inr (Or.inr (Or.inr (Or.inr (Or.inr (Or.inr (Or.inr (Or.inr (Or.inr (Or.inr (Or.inr (Or.inr (Or.inr (Or.inr (Or.inr (Or.inl (Int32.toInt_inj.mp q))))))))))))))))))))))))))))
  · exact Or.inr (Or.inr (Or.inr (Or.inr (Or.inr (Or.inr (Or.inr (Or.inr (Or.inr (Or.inr (Or.inr (Or.inr (Or.inr (Or.inr (Or.inr (Or.inr (Or.inr (Or.inr (Or.inr (Or.inr (Or.inr (Or.inr (Or.inr (Or.inr (Or.inr (Or.inr (Or.inr (Or.inr (Or.inl (Int32.toInt_inj.mp q)))))))))))))))))))))))))))))
  · exact Or.inr (Or.inr (Or.inr (Or.inr (Or.inr (Or.inr (Or.inr (Or.inr (Or.inr (Or.inr (Or.inr (Or.inr (Or.inr (Or.inr (Or.inr (Or.inr (Or.inr (Or.inr (Or.inr (Or.inr (Or.inr (Or.inr (Or.inr (Or.inr (Or.inr (Or.inr (Or.inr (Or.inr (Or.inr (Or.inl (Int32.toInt_inj.mp q))))))))))))))))))))))))))))))
  · exact Or.inr (Or.inr (Or.inr (Or.inr (Or.inr (Or.inr (Or.inr (Or.inr (Or.inr (Or.inr (Or.inr (Or.inr (Or.inr (Or.inr (Or.inr (Or.inr (Or.inr (Or.inr (Or.inr (Or.inr (Or.inr (Or.inr (Or.inr (Or.inr (Or.inr (Or.inr (Or.inr (Or.inr (Or.inr (Or.inr (Or.inl (Int32.toInt_inj.mp q)))))))))))))))))))))))))))))))
  · exact Or.inr (Or.inr (Or.inr (Or.inr (Or.inr (Or.inr (Or.inr (Or.inr (Or.inr (Or.inr (Or.inr (Or.inr (Or.inr (Or.inr (Or.inr (Or.inr (Or.inr (Or.inr (Or.inr (Or.inr (Or.inr (Or.inr (Or.inr (Or.inr (Or.inr (Or.inr (Or.inr (Or.inr (Or.inr (Or.inr (Or.inr (Or.inl (Int32.toInt_inj.mp q))))))))))))))))))))))))))))))))
  · exact Or.inr (Or.inr (Or.inr (Or.inr (Or.inr (Or.inr (Or.inr (Or.inr (Or.inr (Or.inr (Or.inr (Or.inr (Or.inr (Or.inr (Or.inr (Or.inr (Or.inr (Or.inr (Or.inr (Or.inr (Or.inr (Or.inr (Or.inr (Or.inr (Or.inr (Or.inr (Or.inr (Or.inr (Or.inr (Or.inr (Or.inr (Or.inr (Int32.toInt_inj.mp q))))))))))))))))))))))))))))))))
theorem jj_sw_0_32 (x : Int32) (h : ¬ (x.toInt < 0 ∨ 32 < x.toInt)) : x = 0 ∨ x = 1 ∨ x = 2 ∨ x = 3 ∨ x = 4 ∨ x = 5 ∨ x = 6 ∨ x = 7 ∨ x = 8 ∨ x = 9 ∨ x = 10 ∨ x = 11 ∨ x = 12 ∨ x = 13 ∨ x = 14 ∨ x = 15 ∨ x = 16 ∨ x = 17 ∨ x = 18 ∨ x = 19 ∨ x = 20 ∨ x = 21 ∨ x = 22 ∨ x = 23 ∨ x = 24 ∨ x = 25 ∨ x = 26 ∨ x = 27 ∨ x = 28 ∨ x = 29 ∨ x = 30 ∨ x = 31 ∨ x = 32 := jl_sw x h
section WL
variable {p : Program} {l : Launch} {e : Env} {s : State} {m : MethodId} {below : List Frame} {meth : Method} {c : Code} {b L : Nat} {xs : Nat → Int32} {D : va_G} {cs : Nat → ClassId} {ad ad2 : Nat → Nat} {cells slots : Nat} {gc : cm_M} {gr : jm_M} {g : cl_M} {pc pc2 : Nat} {lv : List (Nat × Value)} {rest : List Value} {index : Nat} {Q : State → Prop} {R : Room}
theorem jl_sld (hC : JC p s m #[Value.ref b] meth c D vwCl (fun q => s.heap.size ≤ q) 4 cL_law (some .boolean) wsL_law RL (jt_tys cs)) (hX : va_X b L xs s s.heap) (hbl : b < s.heap.size) {i : Int32} (hin : vp_in i L) (hdg : decode cL_law pc = .ok (.iaload, 1)) (hp : pc + 1 = pc2) (kk : JJ (wl_d cs ad ad2) p l e R s m #[Value.ref b] below meth c D vwCl (fun q => s.heap.size ≤ q) 4 cells slots Q pc2 lv (.int (xs i.toNatClampNeg) :: rest) g) : JJ (wl_d cs ad ad2) p l e R s m #[Value.ref b] below meth c D vwCl (fun q => s.heap.size ≤ q) 4 cells slots Q pc lv (.int i :: .ref b :: rest) g := fun H locs ls hP hD hS hl => va_sld hC.1.1 hC.1.2.1 hX hbl (Nat.not_le.mpr hbl) hS hin hdg (by subst hp; exact kk H locs ls hP hD hS hl)
theorem jl_slen (hC : JC p s m #[Value.ref b] meth c D vwCl (fun q => s.heap.size ≤ q) 4 cL_law (some .boolean) wsL_law RL (jt_tys cs)) (hX : va_X b L xs s s.heap) (hbl : b < s.heap.size) (hdg : decode cL_law pc = .ok (.arraylength, 1)) (hp : pc + 1 = pc2) (kk : JJ (wl_d cs ad ad2) p l e R s m #[Value.ref b] below meth c D vwCl (fun q => s.heap.size ≤ q) 4 cells slots Q pc2 lv (.int (Int32.ofNat L) :: rest) g) : JJ (wl_d cs ad ad2) p l e R s m #[Value.ref b] below meth c D vwCl (fun q => s.heap.size ≤ q) 4 cells slots Q pc lv (.ref b :: rest) g := fun H locs ls hP hD hS hl => va_slen hC.1.1 hC.1.2.1 hX hbl (Nat.not_le.mpr hbl) hS hdg (by subst hp; exact kk H locs ls hP hD hS hl)
theorem jl_ret (hC : JC p s m #[Value.ref b] meth c D vwCl (fun q => s.heap.size ≤ q) 4 cL_law (some .boolean) wsL_law RL (jt_tys cs)) (h1 : cells ≤ 600000) (h2 : slots ≤ 7302250) (hdg : decode cL_law pc = .ok (.ireturn, 1)) : JJ (wl_d cs ad ad2) p l e room_1 s m #[Value.ref b] below meth c D vwCl (fun q => s.heap.size ≤ q) 4 cells slots (lw_Z below #[Value.ref b] s) pc lv [.int 1] g := fun H locs ls hP hD hS hl => va_forget hS.2.2 (W.widen h1 h2 (lw_ret hC.1.1 hC.1.2.1 hC.2.2.2.1 hC.2.2.2.2 hdg))
theorem jl_CI (hC : JC p s m #[Value.ref b] meth c D vwCl (fun q => s.heap.size ≤ q) 4 cL_law (some .boolean) wsL_law RL (jt_tys cs)) {y : MethodName} {ws : List Cond} {rm : Room} {maxL n : Nat} {bytes : ByteArray} {ret2 : Option FieldType} {As : List Value} {Post : Int32 → cm_M → Prop} (hM : JI (wc_d [] (wr_W cs ad2 gr) cs ad) D vwCl (jt_tys cs) l y ws rm 0 0 (.ref (ad 0) :: As) gc Post) (cw : CallW R s #[Value.ref b] RL RX10 index y bytes maxL ret2 ws rm 0 0 n) (hn : As.length = n) (hW : (rest.map fun v => v.category).sum ≤ 8) (st0 : List Value) (hst : st0 = (As.reverse ++ .ref (ad 0) :: rest)) (hdg : decode cL_law pc = .ok (.invokevirtual index, 3)) (hf : cells ≤ R.cells ∧ slots ≤ R.slots) (hp : pc + 3 = pc2) (kk : ∀ (r : Int32) (g2 : cm_M), Post r g2 → JJ (wl_d cs ad ad2) p l e R s m #[Value.ref b] below meth c D vwCl (fun q => s.heap.size ≤ q) 4 cells slots Q pc2 lv (.int r :: rest) (g2, gr)) : JJ (wl_d cs ad ad2) p l e R s m #[Value.ref b] below meth c D vwCl (fun q => s.heap.size ≤ q) 4 cells slots Q pc lv st0 (gc, gr) := jj_conv (wl_c cs ad ad2 gc gr) (jj_cVI (wd := (wc_d [] (wr_W cs ad2 gr) cs ad)) (g := gc) hC (([] : va_W).length + 0) (jx_at (Y := []) (V := wc_W cs ad gc) rfl) rfl rfl hM cw hn hW st0 hst hdg hf hp (fun r g2 h => jj_conv (wl_c cs ad ad2 g2 gr).symm (kk r g2 h)))
theorem jl_CIp (hC : JC p s m #[Value.ref b] meth c D vwCl (fun q => s.heap.size ≤ q) 4 cL_law (some .boolean) wsL_law RL (jt_tys cs)) {y : MethodName} {ws : List Cond} {rm : Room} {maxL n : Nat} {bytes : ByteArray} {ret2 : Option FieldType} {As : List Value} {Post : Int32 → Prop} (hM : JI (wc_d [] (wr_W cs ad2 gr) cs ad) D vwCl (jt_tys cs) l y ws rm 0 0 (.ref (ad 0) :: As) gc (fun r g2 => Post r ∧ g2 = gc)) (cw : CallW R s #[Value.ref b] RL RX10 index y bytes maxL ret2 ws rm 0 0 n) (hn : As.length = n) (hW : (rest.map fun v => v.category).sum ≤ 8) (st0 : List Value) (hst : st0 = (As.reverse ++ .ref (ad 0) :: rest)) (hdg : decode cL_law pc = .ok (.invokevirtual index, 3)) (hf : cells ≤ R.cells ∧ slots ≤ R.slots) (hp : pc + 3 = pc2) (kk : ∀ r : Int32, Post r → JJ (wl_d cs ad ad2) p l e R s m #[Value.ref b] below meth c D vwCl (fun q => s.heap.size ≤ q) 4 cells slots Q pc2 lv (.int r :: rest) (gc, gr)) : JJ (wl_d cs ad ad2) p l e R s m #[Value.ref b] below meth c D vwCl (fun q => s.heap.size ≤ q) 4 cells slots Q pc lv st0 (gc, gr) := jj_conv (wl_c cs ad ad2 gc gr) (jj_cVIp (wd := (wc_d [] (wr_W cs ad2 gr) cs ad)) (g := gc) hC (([] : va_W).length + 0) (jx_at (Y := []) (V := wc_W cs ad gc) rfl) rfl rfl hM cw hn hW st0 hst hdg hf hp (fun r h => jj_conv (wl_c cs ad ad2 gc gr).symm (kk r h)))
theorem jl_CIa (hC : JC p s m #[Value.ref b] meth c D vwCl (fun q => s.heap.size ≤ q) 4 cL_law (some .boolean) wsL_law RL (jt_tys cs)) {y : MethodName} {ws : List Cond} {rm : Room} {mc ms maxL n : Nat} {bytes : ByteArray} {ret2 : Option FieldType} {As : List Value} {Post : Int32 → cm_M → Prop} (hM : JI (wc_d [] (wr_W cs ad2 gr) cs ad) D vwCl (jt_tys cs) l y ws rm mc ms (.ref (ad 0) :: As) gc Post) (cw : CallW R s #[Value.ref b] RL RX10 index y bytes maxL ret2 ws rm mc ms n) (hn : As.length = n) (hW : (rest.map fun v => v.category).sum ≤ 8) (st0 : List Value) (hst : st0 = (As.reverse ++ .ref (ad 0) :: rest)) (hdg : decode cL_law pc = .ok (.invokevirtual index, 3)) (hf : cells + mc ≤ R.cells ∧ slots + ms ≤ R.slots) (hp : pc + 3 = pc2) (kk : ∀ (r : Int32) (g2 : cm_M), Post r g2 → JJ (wl_d cs ad ad2) p l e R s m #[Value.ref b] below meth c D vwCl (fun q => s.heap.size ≤ q) 4 (cells + mc) (slots + ms) Q pc2 lv (.int r :: rest) (g2, gr)) : JJ (wl_d cs ad ad2) p l e R s m #[Value.ref b] below meth c D vwCl (fun q => s.heap.size ≤ q) 4 cells slots Q pc lv st0 (gc, gr) := jj_conv (wl_c cs ad ad2 gc gr) (jj_callVI (wd := (wc_d [] (wr_W cs ad2 gr) cs ad)) (g := gc) hC (([] : va_W).length + 0) (jx_at (Y := []) (V := wc_W cs ad gc) rfl) rfl rfl hM cw hn hW st0 hst hdg hf hp (fun r g2 h => jj_conv (wl_c cs ad ad2 g2 gr).symm (kk r g2 h)))
theorem jl_CL (hC : JC p s m #[Value.ref b] meth c D vwCl (fun q => s.heap.size ≤ q) 4 cL_law (some .boolean) wsL_law RL (jt_tys cs)) {y : MethodName} {ws : List Cond} {rm : Room} {maxL n : Nat} {bytes : ByteArray} {ret2 : Option FieldType} {As : List Value} {Post : Int64 → cm_M → Prop} (hM : JL (wc_d [] (wr_W cs ad2 gr) cs ad) D vwCl (jt_tys cs) l y ws rm 0 0 (.ref (ad 0) :: As) gc Post) (cw : CallW R s #[Value.ref b] RL RX10 index y bytes maxL ret2 ws rm 0 0 n) (hn : As.length = n) (hW : (rest.map fun v => v.category).sum ≤ 8) (st0 : List Value) (hst : st0 = (As.reverse ++ .ref (ad 0) :: rest)) (hdg : decode cL_law pc = .ok (.invokevirtual index, 3)) (hf : cells ≤ R.cells ∧ slots ≤ R.slots) (hp : pc + 3 = pc2) (kk : ∀ (r : Int64) (g2 : cm_M), Post r g2 → JJ (wl_d cs ad ad2) p l e R s m #[Value.ref b] below meth c D vwCl (fun q => s.heap.size ≤ q) 4 cells slots Q pc2 lv (.long r :: rest) (g2, gr)) : JJ (wl_d cs ad ad2) p l e R s m #[Value.ref b] below meth c D vwCl (fun q => s.heap.size ≤ q) 4 cells slots Q pc lv st0 (gc, gr) := jj_conv (wl_c cs ad ad2 gc gr) (jj_cVL (wd := (wc_d [] (wr_W cs ad2 gr) cs ad)) (g := gc) hC (([] : va_W).length + 0) (jx_at (Y := []) (V := wc_W cs ad gc) rfl) rfl rfl hM cw hn hW st0 hst hdg hf hp (fun r g2 h => jj_conv (wl_c cs ad ad2 g2 gr).symm (kk r g2 h)))
theorem jl_CLp (hC : JC p s m #[Value.ref b] meth c D vwCl (fun q => s.heap.size ≤ q) 4 cL_law (some .boolean) wsL_law RL (jt_tys cs)) {y : MethodName} {ws : List Cond} {rm : Room} {maxL n : Nat} {bytes : ByteArray} {ret2 : Option FieldType} {As : List Value} {Post : Int64 → Prop} (hM : JL (wc_d [] (wr_W cs ad2 gr) cs ad) D vwCl (jt_tys cs) l y ws rm 0 0 (.ref (ad 0) :: As) gc (fun r g2 => Post r ∧ g2 = gc)) (cw : CallW R s #[Value.ref b] RL RX10 index y bytes maxL ret2 ws rm 0 0 n) (hn : As.length = n) (hW : (rest.map fun v => v.category).sum ≤ 8) (st0 : List Value) (hst : st0 = (As.reverse ++ .ref (ad 0) :: rest)) (hdg : decode cL_law pc = .ok (.invokevirtual index, 3)) (hf : cells ≤ R.cells ∧ slots ≤ R.slots) (hp : pc + 3 = pc2) (kk : ∀ r : Int64, Post r → JJ (wl_d cs ad ad2) p l e R s m #[Value.ref b] below meth c D vwCl (fun q => s.heap.size ≤ q) 4 cells slots Q pc2 lv (.long r :: rest) (gc, gr)) : JJ (wl_d cs ad ad2) p l e R s m #[Value.ref b] below meth c D vwCl (fun q => s.heap.size ≤ q) 4 cells slots Q pc lv st0 (gc, gr) := jj_conv (wl_c cs ad ad2 gc gr) (jj_cVLp (wd := (wc_d [] (wr_W cs ad2 gr) cs ad)) (g := gc) hC (([] : va_W).length + 0) (jx_at (Y := []) (V := wc_W cs ad gc) rfl) rfl rfl hM cw hn hW st0 hst hdg hf hp (fun r h => jj_conv (wl_c cs ad ad2 gc gr).symm (kk r h)))
theorem jl_CLa (hC : JC p s m #[Value.ref b] meth c D vwCl (fun q => s.heap.size ≤ q) 4 cL_law (some .boolean) wsL_law RL (jt_tys cs)) {y : MethodName} {ws : List Cond} {rm : Room} {mc ms maxL n : Nat} {bytes : ByteArray} {ret2 : Option FieldType} {As : List Value} {Post : Int64 → cm_M → Prop} (hM : JL (wc_d [] (wr_W cs ad2 gr) cs ad) D vwCl (jt_tys cs) l y ws rm mc ms (.ref (ad 0) :: As) gc Post) (cw : CallW R s #[Value.ref b] RL RX10 index y bytes maxL ret2 ws rm mc ms n) (hn : As.length = n) (hW : (rest.map fun v => v.category).sum ≤ 8) (st0 : List Value) (hst : st0 = (As.reverse ++ .ref (ad 0) :: rest)) (hdg : decode cL_law pc = .ok (.invokevirtual index, 3)) (hf : cells + mc ≤ R.cells ∧ slots + ms ≤ R.slots) (hp : pc + 3 = pc2) (kk : ∀ (r : Int64) (g2 : cm_M), Post r g2 → JJ (wl_d cs ad ad2) p l e R s m #[Value.ref b] below meth c D vwCl (fun q => s.heap.size ≤ q) 4 (cells + mc) (slots + ms) Q pc2 lv (.long r :: rest) (g2, gr)) : JJ (wl_d cs ad ad2) p l e R s m #[Value.ref b] below meth c D vwCl (fun q => s.heap.size ≤ q) 4 cells slots Q pc lv st0 (gc, gr) := jj_conv (wl_c cs ad ad2 gc gr) (jj_callVL (wd := (wc_d [] (wr_W cs ad2 gr) cs ad)) (g := gc) hC (([] : va_W).length + 0) (jx_at (Y := []) (V := wc_W cs ad gc) rfl) rfl rfl hM cw hn hW st0 hst hdg hf hp (fun r g2 h => jj_conv (wl_c cs ad ad2 g2 gr).symm (kk r g2 h)))
theorem jl_RI (hC : JC p s m #[Value.ref b] meth c D vwCl (fun q => s.heap.size ≤ q) 4 cL_law (some .boolean) wsL_law RL (jt_tys cs)) {y : MethodName} {ws : List Cond} {rm : Room} {maxL n : Nat} {bytes : ByteArray} {ret2 : Option FieldType} {As : List Value} {Post : Int32 → jm_M → Prop} (hM : JI (wr_d (wc_W cs ad gc ++ wc_X cs gc.1) [] cs ad2) D vwCl (jt_tys cs) l y ws rm 0 0 (.ref (ad2 0) :: As) gr Post) (cw : CallW R s #[Value.ref b] RL RX11 index y bytes maxL ret2 ws rm 0 0 n) (hn : As.length = n) (hW : (rest.map fun v => v.category).sum ≤ 8) (st0 : List Value) (hst : st0 = (As.reverse ++ .ref (ad2 0) :: rest)) (hdg : decode cL_law pc = .ok (.invokevirtual index, 3)) (hf : cells ≤ R.cells ∧ slots ≤ R.slots) (hp : pc + 3 = pc2) (kk : ∀ (r : Int32) (g2 : jm_M), Post r g2 → JJ (wl_d cs ad ad2) p l e R s m #[Value.ref b] below meth c D vwCl (fun q => s.heap.size ≤ q) 4 cells slots Q pc2 lv (.int r :: rest) (gc, g2)) : JJ (wl_d cs ad ad2) p l e R s m #[Value.ref b] below meth c D vwCl (fun q => s.heap.size ≤ q) 4 cells slots Q pc lv st0 (gc, gr) := jj_conv (wl_r cs ad ad2 gc gr) (jj_cVI (wd := (wr_d (wc_W cs ad gc ++ wc_X cs gc.1) [] cs ad2)) (g := gr) hC ((wc_W cs ad gc ++ wc_X cs gc.1).length + 0) (jx_at (V := wr_W cs ad2 gr) rfl) rfl rfl hM cw hn hW st0 hst hdg hf hp (fun r g2 h => jj_conv (wl_r cs ad ad2 gc g2).symm (kk r g2 h)))
theorem jl_RIp (hC : JC p s m #[Value.ref b] meth c D vwCl (fun q => s.heap.size ≤ q) 4 cL_law (some .boolean) wsL_law RL (jt_tys cs)) {y : MethodName} {ws : List Cond} {rm : Room} {maxL n : Nat} {bytes : ByteArray} {ret2 : Option FieldType} {As : List Value} {Post : Int32 → Prop} (hM : JI (wr_d (wc_W cs ad gc ++ wc_X cs gc.1) [] cs ad2) D vwCl (jt_tys cs) l y ws rm 0 0 (.ref (ad2 0) :: As) gr (fun r g2 => Post r ∧ g2 = gr)) (cw : CallW R s #[Value.ref b] RL RX11 index y bytes maxL ret2 ws rm 0 0 n) (hn : As.length = n) (hW : (rest.map fun v => v.category).sum ≤ 8) (st0 : List Value) (hst : st0 = (As.reverse ++ .ref (ad2 0) :: rest)) (hdg : decode cL_law pc = .ok (.invokevirtual index, 3)) (hf : cells ≤ R.cells ∧ slots ≤ R.slots) (hp : pc + 3 = pc2) (kk : ∀ r : Int32, Post r → JJ (wl_d cs ad ad2) p l e R s m #[Value.ref b] below meth c D vwCl (fun q => s.heap.size ≤ q) 4 cells slots Q pc2 lv (.int r :: rest) (gc, gr)) : JJ (wl_d cs ad ad2) p l e R s m #[Value.ref b] below meth c D vwCl (fun q => s.heap.size ≤ q) 4 cells slots Q pc lv st0 (gc, gr) := jj_conv (wl_r cs ad ad2 gc gr) (jj_cVIp (wd := (wr_d (wc_W cs ad gc ++ wc_X cs gc.1) [] cs ad2)) (g := gr) hC ((wc_W cs ad gc ++ wc_X cs gc.1).length + 0) (jx_at (V := wr_W cs ad2 gr) rfl) rfl rfl hM cw hn hW st0 hst hdg hf hp (fun r h => jj_conv (wl_r cs ad ad2 gc gr).symm (kk r h)))
theorem jl_RL (hC : JC p s m #[Value.ref b] meth c D vwCl (fun q => s.heap.size ≤ q) 4 cL_law (some .boolean) wsL_law RL (jt_tys cs)) {y : MethodName} {ws : List Cond} {rm : Room} {maxL n : Nat} {bytes : ByteArray} {ret2 : Option FieldType} {As : List Value} {Post : Int64 → jm_M → Prop} (hM : JL (wr_d (wc_W cs ad gc ++ wc_X cs gc.1) [] cs ad2) D vwCl (jt_tys cs) l y ws rm 0 0 (.ref (ad2 0) :: As) gr Post) (cw : CallW R s #[Value.ref b] RL RX11 index y bytes maxL ret2 ws rm 0 0 n) (hn : As.length = n) (hW : (rest.map fun v => v.category).sum ≤ 8) (st0 : List Value) (hst : st0 = (As.reverse ++ .ref (ad2 0) :: rest)) (hdg : decode cL_law pc = .ok (.invokevirtual index, 3)) (hf : cells ≤ R.cells ∧ slots ≤ R.slots) (hp : pc + 3 = pc2) (kk : ∀ (r : Int64) (g2 : jm_M), Post r g2 → JJ (wl_d cs ad ad2) p l e R s m #[Value.ref b] below meth c D vwCl (fun q => s.heap.size ≤ q) 4 cells slots Q pc2 lv (.long r :: rest) (gc, g2)) : JJ (wl_d cs ad ad2) p l e R s m #[Value.ref b] below meth c D vwCl (fun q => s.heap.size ≤ q) 4 cells slots Q pc lv st0 (gc, gr) := jj_conv (wl_r cs ad ad2 gc gr) (jj_cVL (wd := (wr_d (wc_W cs ad gc ++ wc_X cs gc.1) [] cs ad2)) (g := gr) hC ((wc_W cs ad gc ++ wc_X cs gc.1).length + 0) (jx_at (V := wr_W cs ad2 gr) rfl) rfl rfl hM cw hn hW st0 hst hdg hf hp (fun r g2 h => jj_conv (wl_r cs ad ad2 gc g2).symm (kk r g2 h)))
theorem jl_RLp (hC : JC p s m #[Value.ref b] meth c D vwCl (fun q => s.heap.size ≤ q) 4 cL_law (some .boolean) wsL_law RL (jt_tys cs)) {y : MethodName} {ws : List Cond} {rm : Room} {maxL n : Nat} {bytes : ByteArray} {ret2 : Option FieldType} {As : List Value} {Post : Int64 → Prop} (hM : JL (wr_d (wc_W cs ad gc ++ wc_X cs gc.1) [] cs ad2) D vwCl (jt_tys cs) l y ws rm 0 0 (.ref (ad2 0) :: As) gr (fun r g2 => Post r ∧ g2 = gr)) (cw : CallW R s #[Value.ref b] RL RX11 index y bytes maxL ret2 ws rm 0 0 n) (hn : As.length = n) (hW : (rest.map fun v => v.category).sum ≤ 8) (st0 : List Value) (hst : st0 = (As.reverse ++ .ref (ad2 0) :: rest)) (hdg : decode cL_law pc = .ok (.invokevirtual index, 3)) (hf : cells ≤ R.cells ∧ slots ≤ R.slots) (hp : pc + 3 = pc2) (kk : ∀ r : Int64, Post r → JJ (wl_d cs ad ad2) p l e R s m #[Value.ref b] below meth c D vwCl (fun q => s.heap.size ≤ q) 4 cells slots Q pc2 lv (.long r :: rest) (gc, gr)) : JJ (wl_d cs ad ad2) p l e R s m #[Value.ref b] below meth c D vwCl (fun q => s.heap.size ≤ q) 4 cells slots Q pc lv st0 (gc, gr) := jj_conv (wl_r cs ad ad2 gc gr) (jj_cVLp (wd := (wr_d (wc_W cs ad gc ++ wc_X cs gc.1) [] cs ad2)) (g := gr) hC ((wc_W cs ad gc ++ wc_X cs gc.1).length + 0) (jx_at (V := wr_W cs ad2 gr) rfl) rfl rfl hM cw hn hW st0 hst hdg hf hp (fun r h => jj_conv (wl_r cs ad ad2 gc gr).symm (kk r h)))
end WL
def vl_law_18 (L : Nat) (xs : Nat → Int32) (Post : Prop) : Nat → Int32 → Nat → Nat → cl_M → Prop
  | 0, _, _, _, _ => False
  | f + 1, x3, uc, us, g => (uc ≤ 600000) ∧ (us ≤ 7302250) ∧ (((((Int32.ofNat L) - 5) < x3) → (True)) ∧ ((¬ ((Int32.ofNat L) - 5) < x3) → ((vp_in x3 L) ∧ (((((xs x3.toNatClampNeg) &&& 63).toInt < 0 ∨ 32 < ((xs x3.toNatClampNeg) &&& 63).toInt) → (vl_law_18 L xs Post f (x3 + 5) uc us g)) ∧ (((xs x3.toNatClampNeg) &&& 63) = 0 → ((vp_in (x3 + 1) L) ∧ (vc_X10_module (xs (x3 + 1).toNatClampNeg) g.1 (fun (r3 : Int32) (g4 : cm_M) => (vp_in (x3 + 1) L) ∧ (vr_module (xs (x3 + 1).toNatClampNeg) g.2 (fun (r5 : Int32) (g6 : jm_M) => ((r3 = r5) → (vl_law_18 L xs Post f (x3 + 5) uc us (g4, g6))) ∧ ((¬ r3 = r5) → (False)))))))) ∧ (((xs x3.toNatClampNeg) &&& 63) = 1 → ((vp_in (x3 + 1) L) ∧ (vc_X10_table (xs (x3 + 1).toNatClampNeg) g.1 (fun (r8 : Int32) (g9 : cm_M) => (vp_in (x3 + 1) L) ∧ (vr_table (xs (x3 + 1).toNatClampNeg) g.2 (fun (r10 : Int32) (g11 : jm_M) => ((r8 = r10) → (vl_law_18 L xs Post f (x3 + 5) uc us (g9, g11))) ∧ ((¬ r8 = r10) → (False)))))))) ∧ (((xs x3.toNatClampNeg) &&& 63) = 2 → ((vp_in (x3 + 1) L) ∧ (vc_X10_routine (xs (x3 + 1).toNatClampNeg) g.1 (fun (r13 : Int32) (g14 : cm_M) => (vp_in (x3 + 1) L) ∧ (vr_routine (xs (x3 + 1).toNatClampNeg) g.2 (fun (r15 : Int32) (g16 : jm_M) => ((r13 = r15) → (vl_law_18 L xs Post f (x3 + 5) uc us (g14, g16))) ∧ ((¬ r13 = r15) → (False)))))))) ∧ (((xs x3.toNatClampNeg) &&& 63) = 3 → ((vp_in (x3 + 1) L) ∧ ((vp_in (x3 + 2) L) ∧ ((vp_in (x3 + 3) L) ∧ ((vp_in (x3 + 4) L) ∧ (vc_X10_line (xs (x3 + 1).toNatClampNeg) (xs (x3 + 2).toNatClampNeg) (xs (x3 + 3).toNatClampNeg) (xs (x3 + 4).toNatClampNeg) g.1 (fun (r18 : Int32) (g19 : cm_M) => (vp_in (x3 + 1) L) ∧ ((vp_in (x3 + 2) L) ∧ ((vp_in (x3 + 3) L) ∧ ((vp_in (x3 + 4) L) ∧ (vr_line (xs (x3 + 1).toNatClampNeg) (xs (x3 + 2).toNatClampNeg) (xs (x3 + 3).toNatClampNeg) (xs (x3 + 4).toNatClampNeg) g.2 (fun (r20 : Int32) (g21 : jm_M) => ((r18 = r20) → (vl_law_18 L xs Post f (x3 + 5) uc us (g19, g21))) ∧ ((¬ r18 = r20) → (False)))))))))))))) ∧ (((xs x3.toNatClampNeg) &&& 63) = 4 → ((vp_in (x3 + 1) L) ∧ (vc_X10_clear (xs (x3 + 1).toNatClampNeg) g.1 (fun (r23 : Int32) (g24 : cm_M) => (vp_in (x3 + 1) L) ∧ (vr_clear (xs (x3 + 1).toNatClampNeg) g.2 (fun (r25 : Int32) (g26 : jm_M) => ((r23 = r25) → (vl_law_18 L xs Post f (x3 + 5) uc us (g24, g26))) ∧ ((¬ r23 = r25) → (False)))))))) ∧ (((xs x3.toNatClampNeg) &&& 63) = 5 → ((vp_in (x3 + 1) L) ∧ ((vp_in (x3 + 2) L) ∧ (∃ mc30 ms31 : Nat, (uc + mc30 ≤ 600000) ∧ (us + ms31 ≤ 7302250) ∧ (vc_X10_run mc30 ms31 (xs (x3 + 1).toNatClampNeg) (xs (x3 + 2).toNatClampNeg) g.1 (fun (r28 : Int32) (g29 : cm_M) => (vp_in (x3 + 1) L) ∧ ((vp_in (x3 + 2) L) ∧ (vr_run (xs (x3 + 1).toNatClampNeg) (xs (x3 + 2).toNatClampNeg) g.2 (fun (r32 : Int32) (g33 : jm_M) => ((r28 = r32) → (vl_law_18 L xs Post f (x3 + 5) (uc + mc30) (us + ms31) (g29, g33))) ∧ ((¬ r28 = r32) → (False))))))))))) ∧ (((xs x3.toNatClampNeg) &&& 63) = 6 → ((vp_in (x3 + 1) L) ∧ ((vp_in (x3 + 2) L) ∧ ((vp_in (x3 + 3) L) ∧ (vc_X10_cell (xs (x3 + 1).toNatClampNeg) (xs (x3 + 2).toNatClampNeg) (xs (x3 + 3).toNatClampNeg) g.1 (fun (r35 : Int32) => (vp_in (x3 + 1) L) ∧ ((vp_in (x3 + 2) L) ∧ ((vp_in (x3 + 3) L) ∧ (vr_cell (xs (x3 + 1).toNatClampNeg) (xs (x3 + 2).toNatClampNeg) (xs (x3 + 3).toNatClampNeg) g.2 (fun (r36 : Int32) => ((r35 = r36) → (vl_law_18 L xs Post f (x3 + 5) uc us g)) ∧ ((¬ r35 = r36) → (False)))))))))))) ∧ (((xs x3.toNatClampNeg) &&& 63) = 7 → ((vp_in (x3 + 1) L) ∧ ((vp_in (x3 + 2) L) ∧ ((vp_in (x3 + 3) L) ∧ (vc_X10_counted (xs (x3 + 1).toNatClampNeg) (xs (x3 + 2).toNatClampNeg) (xs (x3 + 3).toNatClampNeg) g.1 (fun (r38 : Int32) => (vp_in (x3 + 1) L) ∧ ((vp_in (x3 + 2) L) ∧ ((vp_in (x3 + 3) L) ∧ (vr_counted (xs (x3 + 1).toNatClampNeg) (xs (x3 + 2).toNatClampNeg) (xs (x3 + 3).toNatClampNeg) g.2 (fun (r39 : Int32) => ((r38 = r39) → (vl_law_18 L xs Post f (x3 + 5) uc us g)) ∧ ((¬ r38 = r39) → (False)))))))))))) ∧ (((xs x3.toNatClampNeg) &&& 63) = 8 → ((vp_in (x3 + 1) L) ∧ ((vp_in (x3 + 2) L) ∧ ((vp_in (x3 + 3) L) ∧ (vc_X10_tied (xs (x3 + 1).toNatClampNeg) (xs (x3 + 2).toNatClampNeg) (xs (x3 + 3).toNatClampNeg) g.1 (fun (r41 : Int32) => (vp_in (x3 + 1) L) ∧ ((vp_in (x3 + 2) L) ∧ ((vp_in (x3 + 3) L) ∧ (vr_tied (xs (x3 + 1).toNatClampNeg) (xs (x3 + 2).toNatClampNeg) (xs (x3 + 3).toNatClampNeg) g.2 (fun (r42 : Int32) => ((r41 = r42) → (vl_law_18 L xs Post f (x3 + 5) uc us g)) ∧ ((¬ r41 = r42) → (False)))))))))))) ∧ (((xs x3.toNatClampNeg) &&& 63) = 9 → ((vp_in (x3 + 1) L) ∧ ((vp_in (x3 + 2) L) ∧ (vc_X10_room (xs (x3 + 1).toNatClampNeg) (xs (x3 + 2).toNatClampNeg) g.1 (fun (r44 : Int32) (g45 : cm_M) => (vp_in (x3 + 1) L) ∧ ((vp_in (x3 + 2) L) ∧ (vr_room (xs (x3 + 1).toNatClampNeg) (xs (x3 + 2).toNatClampNeg) g.2 (fun (r46 : Int32) (g47 : jm_M) => ((r44 = r46) → (vl_law_18 L xs Post f (x3 + 5) uc us (g45, g47))) ∧ ((¬ r44 = r46) → (False)))))))))) ∧ (((xs x3.toNatClampNeg) &&& 63) = 10 → ((vp_in (x3 + 1) L) ∧ ((vp_in (x3 + 2) L) ∧ (vc_X10_weight (xs (x3 + 1).toNatClampNeg) (xs (x3 + 2).toNatClampNeg) g.1 (fun (r49 : Int32) (g50 : cm_M) => (vp_in (x3 + 1) L) ∧ ((vp_in (x3 + 2) L) ∧ (vr_weight (xs (x3 + 1).toNatClampNeg) (xs (x3 + 2).toNatClampNeg) g.2 (fun (r51 : Int32) (g52 : jm_M) => ((r49 = r51) → (vl_law_18 L xs Post f (x3 + 5) uc us (g50, g52))) ∧ ((¬ r49 = r51) → (False)))))))))) ∧ (((xs x3.toNatClampNeg) &&& 63) = 11 → ((vp_in (x3 + 1) L) ∧ ((vp_in (x3 + 2) L) ∧ ((vp_in (x3 + 3) L) ∧ (vc_X10_tell (xs (x3 + 1).toNatClampNeg) (xs (x3 + 2).toNatClampNeg) (xs (x3 + 3).toNatClampNeg) g.1 (fun (r54 : Int32) (g55 : cm_M) => (vp_in (x3 + 1) L) ∧ ((vp_in (x3 + 2) L) ∧ ((vp_in (x3 + 3) L) ∧ (vr_tell (xs (x3 + 1).toNatClampNeg) (xs (x3 + 2).toNatClampNeg) (xs (x3 + 3).toNatClampNeg) g.2 (fun (r56 : Int32) (g57 : jm_M) => ((r54 = r56) → (vl_law_18 L xs Post f (x3 + 5) uc us (g55, g57))) ∧ ((¬ r54 = r56) → (False)))))))))))) ∧ (((xs x3.toNatClampNeg) &&& 63) = 12 → (vc_X10_price g.1 (fun (r59 : Int64) (g60 : cm_M) => vr_price g.2 (fun (r61 : Int64) => (((lg_cmp r59 r61) = 0) → (vl_law_18 L xs Post f (x3 + 5) uc us (g60, g.2))) ∧ ((¬ (lg_cmp r59 r61) = 0) → (False)))))) ∧ (((xs x3.toNatClampNeg) &&& 63) = 13 → ((vp_in (x3 + 1) L) ∧ ((vp_in (x3 + 2) L) ∧ (vc_X10_cut (xs (x3 + 1).toNatClampNeg) (xs (x3 + 2).toNatClampNeg) g.1 (fun (r63 : Int64) (g64 : cm_M) => (vp_in (x3 + 1) L) ∧ ((vp_in (x3 + 2) L) ∧ (vr_cut (xs (x3 + 1).toNatClampNeg) (xs (x3 + 2).toNatClampNeg) g.2 (fun (r65 : Int64) (g66 : jm_M) => (((lg_cmp r63 r65) = 0) → (vl_law_18 L xs Post f (x3 + 5) uc us (g64, g66))) ∧ ((¬ (lg_cmp r63 r65) = 0) → (False)))))))))) ∧ (((xs x3.toNatClampNeg) &&& 63) = 14 → ((vp_in (x3 + 1) L) ∧ (vc_X10_put (xs (x3 + 1).toNatClampNeg) g.1 (fun (r68 : Int32) => (vp_in (x3 + 1) L) ∧ (vr_put (xs (x3 + 1).toNatClampNeg) g.2 (fun (r69 : Int32) => ((r68 = r69) → (vl_law_18 L xs Post f (x3 + 5) uc us g)) ∧ ((¬ r68 = r69) → (False)))))))) ∧ (((xs x3.toNatClampNeg) &&& 63) = 15 → ((vp_in (x3 + 1) L) ∧ (vc_X10_ring (xs (x3 + 1).toNatClampNeg) g.1 (fun (r71 : Int32) (g72 : cm_M) => (vp_in (x3 + 1) L) ∧ (vr_ring (xs (x3 + 1).toNatClampNeg) g.2 (fun (r73 : Int32) (g74 : jm_M) => ((r71 = r73) → (vl_law_18 L xs Post f (x3 + 5) uc us (g72, g74))) ∧ ((¬ r71 = r73) → (False)))))))) ∧ (((xs x3.toNatClampNeg) &&& 63) = 16 → ((vp_in (x3 + 1) L) ∧ ((vp_in (x3 + 2) L) ∧ (∃ mc78 ms79 : Nat, (uc + mc78 ≤ 600000) ∧ (us + ms79 ≤ 7302250) ∧ (vc_X10_act mc78 ms79 (xs (x3 + 1).toNatClampNeg) (xs (x3 + 2).toNatClampNeg) g.1 (fun (r76 : Int32) (g77 : cm_M) => (vp_in (x3 + 1) L) ∧ ((vp_in (x3 + 2) L) ∧ (vr_act (xs (x3 + 1).toNatClampNeg) (xs (x3 + 2).toNatClampNeg) g.2 (fun (r80 : Int32) (g81 : jm_M) => ((r76 = r80) → (vl_law_18 L xs Post f (x3 + 5) (uc + mc78) (us + ms79) (g77, g81))) ∧ ((¬ r76 = r80) → (False))))))))))) ∧ (((xs x3.toNatClampNeg) &&& 63) = 17 → ((vp_in (x3 + 1) L) ∧ (vc_X10_deliver (xs (x3 + 1).toNatClampNeg) g.1 (fun (r83 : Int32) (g84 : cm_M) => (vp_in (x3 + 1) L) ∧ (vr_deliver (xs (x3 + 1).toNatClampNeg) g.2 (fun (r85 : Int32) (g86 : jm_M) => ((r83 = r85) → (vl_law_18 L xs Post f (x3 + 5) uc us (g84, g86))) ∧ ((¬ r83 = r85) → (False)))))))) ∧ (((xs x3.toNatClampNeg) &&& 63) = 18 → (vc_X10_settle g.1 (fun (r88 : Int32) (g89 : cm_M) => vr_settle g.2 (fun (r90 : Int32) (g91 : jm_M) => ((r88 = r90) → (vl_law_18 L xs Post f (x3 + 5) uc us (g89, g91))) ∧ ((¬ r88 = r90) → (False)))))) ∧ (((xs x3.toNatClampNeg) &&& 63) = 19 → ((vp_in (x3 + 1) L) ∧ ((vp_in (x3 + 2) L) ∧ (vc_X10_letter (xs (x3 + 1).toNatClampNeg) (xs (x3 + 2).toNatClampNeg) g.1 (fun (r93 : Int32) => (vp_in (x3 + 1) L) ∧ ((vp_in (x3 + 2) L) ∧ (vr_letter (xs (x3 + 1).toNatClampNeg) (xs (x3 + 2).toNatClampNeg) g.2 (fun (r94 : Int32) => ((r93 = r94) → (vl_law_18 L xs Post f (x3 + 5) uc us g)) ∧ ((¬ r93 = r94) → (False)))))))))) ∧ (((xs x3.toNatClampNeg) &&& 63) = 20 → ((vp_in (x3 + 1) L) ∧ (vc_X10_law (xs (x3 + 1).toNatClampNeg) g.1 (fun (r96 : Int32) (g97 : cm_M) => (vp_in (x3 + 1) L) ∧ (vr_law (xs (x3 + 1).toNatClampNeg) g.2 (fun (r98 : Int32) (g99 : jm_M) => ((r96 = r98) → (vl_law_18 L xs Post f (x3 + 5) uc us (g97, g99))) ∧ ((¬ r96 = r98) → (False)))))))) ∧ (((xs x3.toNatClampNeg) &&& 63) = 21 → ((vp_in (x3 + 1) L) ∧ ((vp_in (x3 + 2) L) ∧ ((vp_in (x3 + 3) L) ∧ ((vp_in (x3 + 4) L) ∧ (vc_X10_term (xs (x3 + 1).toNatClampNeg) (xs (x3 + 2).toNatClampNeg) (xs (x3 + 3).toNatClampNeg) (xs (x3 + 4).toNatClampNeg) g.1 (fun (r101 : Int32) (g102 : cm_M) => (vp_in (x3 + 1) L) ∧ ((vp_in (x3 + 2) L) ∧ ((vp_in (x3 + 3) L) ∧ ((vp_in (x3 + 4) L) ∧ (vr_term (xs (x3 + 1).toNatClampNeg) (xs (x3 + 2).toNatClampNeg) (xs (x3 + 3).toNatClampNeg) (xs (x3 + 4).toNatClampNeg) g.2 (fun (r103 : Int32) (g104 : jm_M) => ((r101 = r103) → (vl_law_18 L xs Post f (x3 + 5) uc us (g102, g104))) ∧ ((¬ r101 = r103) → (False)))))))))))))) ∧ (((xs x3.toNatClampNeg) &&& 63) = 22 → ((vp_in (x3 + 1) L) ∧ ((vp_in (x3 + 2) L) ∧ (vc_X10_holds (xs (x3 + 1).toNatClampNeg) (xs (x3 + 2).toNatClampNeg) g.1 (fun (r106 : Int32) => (vp_in (x3 + 1) L) ∧ ((vp_in (x3 + 2) L) ∧ (vr_holds (xs (x3 + 1).toNatClampNeg) (xs (x3 + 2).toNatClampNeg) g.2 (fun (r107 : Int32) => ((r106 = r107) → (vl_law_18 L xs Post f (x3 + 5) uc us g)) ∧ ((¬ r106 = r107) → (False)))))))))) ∧ (((xs x3.toNatClampNeg) &&& 63) = 23 → ((vp_in (x3 + 1) L) ∧ (vc_X10_broken (xs (x3 + 1).toNatClampNeg) g.1 (fun (r109 : Int32) (g110 : cm_M) => (vp_in (x3 + 1) L) ∧ (vr_broken (xs (x3 + 1).toNatClampNeg) g.2 (fun (r111 : Int32) (g112 : jm_M) => ((r109 = r111) → (vl_law_18 L xs Post f (x3 + 5) uc us (g110, g112))) ∧ ((¬ r109 = r111) → (False)))))))) ∧ (((xs x3.toNatClampNeg) &&& 63) = 24 → ((vp_in (x3 + 1) L) ∧ ((vp_in (x3 + 2) L) ∧ (vc_X10_worst (xs (x3 + 1).toNatClampNeg) (xs (x3 + 2).toNatClampNeg) g.1 (fun (r114 : Int32) (g115 : cm_M) => (vp_in (x3 + 1) L) ∧ ((vp_in (x3 + 2) L) ∧ (vr_worst (xs (x3 + 1).toNatClampNeg) (xs (x3 + 2).toNatClampNeg) g.2 (fun (r116 : Int32) (g117 : jm_M) => ((r114 = r116) → (vl_law_18 L xs Post f (x3 + 5) uc us (g115, g117))) ∧ ((¬ r114 = r116) → (False)))))))))) ∧ (((xs x3.toNatClampNeg) &&& 63) = 25 → (vc_X10_orders g.1 (fun (r119 : Int32) (g120 : cm_M) => vr_orders g.2 (fun (r121 : Int32) (g122 : jm_M) => ((r119 = r121) → (vl_law_18 L xs Post f (x3 + 5) uc us (g120, g122))) ∧ ((¬ r119 = r121) → (False)))))) ∧ (((xs x3.toNatClampNeg) &&& 63) = 26 → ((vp_in (x3 + 1) L) ∧ ((vp_in (x3 + 2) L) ∧ (∃ mc126 ms127 : Nat, (uc + mc126 ≤ 600000) ∧ (us + ms127 ≤ 7302250) ∧ (vc_X10_beside mc126 ms127 (xs (x3 + 1).toNatClampNeg) (xs (x3 + 2).toNatClampNeg) g.1 (fun (r124 : Int32) (g125 : cm_M) => (vp_in (x3 + 1) L) ∧ ((vp_in (x3 + 2) L) ∧ (vr_beside (xs (x3 + 1).toNatClampNeg) (xs (x3 + 2).toNatClampNeg) g.2 (fun (r128 : Int32) (g129 : jm_M) => ((r124 = r128) → (vl_law_18 L xs Post f (x3 + 5) (uc + mc126) (us + ms127) (g125, g129))) ∧ ((¬ r124 = r128) → (False))))))))))) ∧ (((xs x3.toNatClampNeg) &&& 63) = 27 → ((vp_in (x3 + 1) L) ∧ (vc_X10_unlike (xs (x3 + 1).toNatClampNeg) g.1 (fun (r131 : Int32) => (vp_in (x3 + 1) L) ∧ (vr_unlike (xs (x3 + 1).toNatClampNeg) g.2 (fun (r132 : Int32) => ((r131 = r132) → (vl_law_18 L xs Post f (x3 + 5) uc us g)) ∧ ((¬ r131 = r132) → (False)))))))) ∧ (((xs x3.toNatClampNeg) &&& 63) = 28 → (vc_X10_differ g.1 (fun (r134 : Int32) => vr_differ g.2 (fun (r135 : Int32) => ((r134 = r135) → (vl_law_18 L xs Post f (x3 + 5) uc us g)) ∧ ((¬ r134 = r135) → (False)))))) ∧ (((xs x3.toNatClampNeg) &&& 63) = 29 → (vc_X10_sync g.1 (fun (r137 : Int32) (g138 : cm_M) => vr_sync g.2 (fun (r139 : Int32) (g140 : jm_M) => ((r137 = r139) → (vl_law_18 L xs Post f (x3 + 5) uc us (g138, g140))) ∧ ((¬ r137 = r139) → (False)))))) ∧ (((xs x3.toNatClampNeg) &&& 63) = 30 → ((vp_in (x3 + 1) L) ∧ (∃ mc144 ms145 : Nat, (uc + mc144 ≤ 600000) ∧ (us + ms145 ≤ 7302250) ∧ (vc_X10_image mc144 ms145 (xs (x3 + 1).toNatClampNeg) g.1 (fun (r142 : Int32) (g143 : cm_M) => (vp_in (x3 + 1) L) ∧ (vr_image (xs (x3 + 1).toNatClampNeg) g.2 (fun (r146 : Int32) (g147 : jm_M) => ((r142 = r146) → (vl_law_18 L xs Post f (x3 + 5) (uc + mc144) (us + ms145) (g143, g147))) ∧ ((¬ r142 = r146) → (False))))))))) ∧ (((xs x3.toNatClampNeg) &&& 63) = 31 → ((vp_in (x3 + 1) L) ∧ (∃ mc151 ms152 : Nat, (uc + mc151 ≤ 600000) ∧ (us + ms152 ≤ 7302250) ∧ (vc_X10_restore mc151 ms152 (xs (x3 + 1).toNatClampNeg) g.1 (fun (r149 : Int32) (g150 : cm_M) => (vp_in (x3 + 1) L) ∧ (vr_restore (xs (x3 + 1).toNatClampNeg) g.2 (fun (r153 : Int32) (g154 : jm_M) => ((r149 = r153) → (vl_law_18 L xs Post f (x3 + 5) (uc + mc151) (us + ms152) (g150, g154))) ∧ ((¬ r149 = r153) → (False))))))))) ∧ (((xs x3.toNatClampNeg) &&& 63) = 32 → ((vp_in (x3 + 1) L) ∧ (vc_X10_count (xs (x3 + 1).toNatClampNeg) g.1 (fun (r156 : Int32) => (vp_in (x3 + 1) L) ∧ (vr_count (xs (x3 + 1).toNatClampNeg) g.2 (fun (r157 : Int32) => ((r156 = r157) → (vl_law_18 L xs Post f (x3 + 5) uc us g)) ∧ ((¬ r156 = r157) → (False))))))))))))
set_option maxHeartbeats 4000000 in
set_option maxRecDepth 100000 in
theorem al_law_18 {p : Program} {l : Launch} {e : Env} {s : State} {m : MethodId} {below : List Frame} {meth : Method} {c : Code} {b L : Nat} {xs : Nat → Int32} {D : va_G} {cs : Nat → ClassId} {ad ad2 : Nat → Nat} (hC : JC p s m #[Value.ref b] meth c D vwCl (fun q => s.heap.size ≤ q) 4 cL_law (some .boolean) wsL_law RL (jt_tys cs)) (hX : va_X b L xs s s.heap) (hbl : b < s.heap.size) (Post : Prop) : ∀ (f : Nat) (x3 : Int32) (uc : Nat) (us : Nat) (g : cl_M), vl_law_18 L xs Post f x3 uc us g → JJ (wl_d cs ad ad2) p l e room_1 s m #[Value.ref b] below meth c D vwCl (fun q => s.heap.size ≤ q) 4 uc us (lw_Z below #[Value.ref b] s) 18 [(0, .ref b), (1, .ref (ad 0)), (2, .ref (ad2 0)), (3, .int x3)] [] g := by
  intro f
  induction f with
  | zero => intro x3 uc us g hV; exact hV.elim
  | succ f ih =>
    intro x3 uc us g hV
    rw [vl_law_18] at hV
    obtain ⟨huc, hus, hV⟩ := hV
    refine jj_iload_n (pc2 := 19) hC dL_law_18 rfl 3 rfl rfl ?_
    refine jj_aload_n (pc2 := 20) hC dL_law_19 rfl 0 rfl rfl ?_
    refine jl_slen (pc2 := 21) hC hX hbl dL_law_20 rfl ?_
    refine jj_iconst (pc2 := 22) hC 5 dL_law_21 (by decide) rfl ?_
    refine jj_isub (pc2 := 23) hC dL_law_22 rfl ?_
    refine jj_icmp_gt (pc2 := 26) hC 1127 dL_law_23 (by decide) rfl (fun h1 => ?_) (fun h1 => ?_)
    · have hV := hV.1 h1
      refine jj_iconst (pc2 := 1128) hC 1 dL_law_1127 (by decide) rfl ?_
      exact jl_ret hC (show uc ≤ 600000 by omega) (show us ≤ 7302250 by omega) dL_law_1128
    · have hV := hV.2 h1
      refine jj_aload_n (pc2 := 27) hC dL_law_26 rfl 0 rfl rfl ?_
      refine jj_iload_n (pc2 := 28) hC dL_law_27 rfl 3 rfl rfl ?_
      refine jl_sld (pc2 := 29) hC hX hbl hV.1 dL_law_28 rfl ?_
      have hV := hV.2
      refine jj_bipush (pc2 := 31) hC 63 dL_law_29 (by decide) rfl ?_
      refine jj_iand (pc2 := 32) hC dL_law_31 rfl ?_
      by_cases h2 : ((xs x3.toNatClampNeg) &&& 63).toInt < 0 ∨ 32 < ((xs x3.toNatClampNeg) &&& 63).toInt
      · have hV := hV.1 h2
        refine jj_tabOut hC 1121 dL_law_32 h2 (by decide) ?_
        refine jj_iinc (pc2 := 1124) hC (x3 + 5) [(3, .int (x3 + 5)), (0, .ref b), (1, .ref (ad 0)), (2, .ref (ad2 0))] dL_law_1121 3 rfl rfl (by decide) rfl rfl ?_
        refine jj_goto hC 18 dL_law_1124 (by decide) ?_
        exact jj_sub (lv2 := [(0, .ref b), (1, .ref (ad 0)), (2, .ref (ad2 0)), (3, .int (x3 + 5))]) [1, 2, 3, 0] rfl (ih (x3 + 5) uc us g hV)
      have hV := hV.2
      rcases jj_sw_0_32 ((xs x3.toNatClampNeg) &&& 63) h2 with hs | hs | hs | hs | hs | hs | hs | hs | hs | hs | hs | hs | hs | hs | hs | hs | hs | hs | hs | hs | hs | hs | hs | hs | hs | hs | hs | hs | hs | hs | hs | hs | hs
      · have hV := hV.1 hs
        refine jj_tabIn (off := 148) hC 180 dL_law_32 (fun q => h2 (Or.inl q)) (fun q => h2 (Or.inr q)) (by rw [hs]; decide) (by decide) ?_
        refine jj_aload_n (pc2 := 181) hC dL_law_180 rfl 1 rfl rfl ?_
        refine jj_aload_n (pc2 := 182) hC dL_law_181 rfl 0 rfl rfl ?_
        refine jj_iload_n (pc2 := 183) hC dL_law_182 rfl 3 rfl rfl ?_
        refine jj_iconst (pc2 := 184) hC 1 dL_law_183 (by decide) rfl ?_
        refine jj_iadd (pc2 := 185) hC dL_law_184 rfl ?_
        refine jl_sld (pc2 := 186) hC hX hbl hV.1 dL_law_185 rfl ?_
        have hV := hV.2
        refine jl_CI (pc2 := 189) (gc := g.1) (gr := g.2) (rest := []) hC (kc_X10_module l D cs [] (wr_W cs ad2 g.2) ad (xs (x3 + 1).toNatClampNeg) g.1 _ hV) (cwV 1 hC.1.2.2.2.2 gL_law_X10_module rfl rfl rfl (by decide +kernel) ⟨by decide, by decide⟩) rfl (Nat.le_of_ble_eq_true rfl) _ rfl dL_law_186 ⟨show uc ≤ 600000 by omega, show us ≤ 7302250 by omega⟩ rfl (fun r3 g4 hV => ?_)
        refine jj_aload_n (pc2 := 190) hC dL_law_189 rfl 2 rfl rfl ?_
        refine jj_aload_n (pc2 := 191) hC dL_law_190 rfl 0 rfl rfl ?_
        refine jj_iload_n (pc2 := 192) hC dL_law_191 rfl 3 rfl rfl ?_
        refine jj_iconst (pc2 := 193) hC 1 dL_law_192 (by decide) rfl ?_
        refine jj_iadd (pc2 := 194) hC dL_law_193 rfl ?_
        refine jl_sld (pc2 := 195) hC hX hbl hV.1 dL_law_194 rfl ?_
        have hV := hV.2
        refine jl_RI (pc2 := 198) (gc := g4) (gr := g.2) (rest := [.int r3]) hC (cr_module l D cs (wc_W cs ad g4 ++ wc_X cs g4.1) [] ad2 (xs (x3 + 1).toNatClampNeg) g.2 _ hV) (cwV 1 hC.1.2.2.2.2 gL_law_X11_module rfl rfl rfl (by decide +kernel) ⟨by decide, by decide⟩) rfl (Nat.le_of_ble_eq_true rfl) _ rfl dL_law_195 ⟨show uc ≤ 600000 by omega, show us ≤ 7302250 by omega⟩ rfl (fun r5 g6 hV => ?_)
        refine jj_icmp_eq (pc2 := 201) hC 1121 dL_law_198 (by decide) rfl (fun h7 => ?_) (fun h7 => ?_)
        · have hV := hV.1 h7
          refine jj_iinc (pc2 := 1124) hC (x3 + 5) [(3, .int (x3 + 5)), (0, .ref b), (1, .ref (ad 0)), (2, .ref (ad2 0))] dL_law_1121 3 rfl rfl (by decide) rfl rfl ?_
          refine jj_goto hC 18 dL_law_1124 (by decide) ?_
          exact jj_sub (lv2 := [(0, .ref b), (1, .ref (ad 0)), (2, .ref (ad2 0)), (3, .int (x3 + 5))]) [1, 2, 3, 0] rfl (ih (x3 + 5) uc us (g4, g6) hV)
        · have hV := hV.2 h7
          refine jj_iconst (pc2 := 202) hC 0 dL_law_201 (by decide) rfl ?_
          exact hV.elim
      · have hV := hV.2.1 hs
        refine jj_tabIn (off := 171) hC 203 dL_law_32 (fun q => h2 (Or.inl q)) (fun q => h2 (Or.inr q)) (by rw [hs]; decide) (by decide) ?_
        refine jj_aload_n (pc2 := 204) hC dL_law_203 rfl 1 rfl rfl ?_
        refine jj_aload_n (pc2 := 205) hC dL_law_204 rfl 0 rfl rfl ?_
        refine jj_iload_n (pc2 := 206) hC dL_law_205 rfl 3 rfl rfl ?_
        refine jj_iconst (pc2 := 207) hC 1 dL_law_206 (by decide) rfl ?_
        refine jj_iadd (pc2 := 208) hC dL_law_207 rfl ?_
        refine jl_sld (pc2 := 209) hC hX hbl hV.1 dL_law_208 rfl ?_
        have hV := hV.2
        refine jl_CI (pc2 := 212) (gc := g.1) (gr := g.2) (rest := []) hC (kc_X10_table l D cs [] (wr_W cs ad2 g.2) ad (xs (x3 + 1).toNatClampNeg) g.1 _ hV) (cwV 1 hC.1.2.2.2.2 gL_law_X10_table rfl rfl rfl (by decide +kernel) ⟨by decide, by decide⟩) rfl (Nat.le_of_ble_eq_true rfl) _ rfl dL_law_209 ⟨show uc ≤ 600000 by omega, show us ≤ 7302250 by omega⟩ rfl (fun r8 g9 hV => ?_)
        refine jj_aload_n (pc2 := 213) hC dL_law_212 rfl 2 rfl rfl ?_
        refine jj_aload_n (pc2 := 214) hC dL_law_213 rfl 0 rfl rfl ?_
        refine jj_iload_n (pc2 := 215) hC dL_law_214 rfl 3 rfl rfl ?_
        refine jj_iconst (pc2 := 216) hC 1 dL_law_215 (by decide) rfl ?_
        refine jj_iadd (pc2 := 217) hC dL_law_216 rfl ?_
        refine jl_sld (pc2 := 218) hC hX hbl hV.1 dL_law_217 rfl ?_
        have hV := hV.2
        refine jl_RI (pc2 := 221) (gc := g9) (gr := g.2) (rest := [.int r8]) hC (cr_table l D cs (wc_W cs ad g9 ++ wc_X cs g9.1) [] ad2 (xs (x3 + 1).toNatClampNeg) g.2 _ hV) (cwV 1 hC.1.2.2.2.2 gL_law_X11_table rfl rfl rfl (by decide +kernel) ⟨by decide, by decide⟩) rfl (Nat.le_of_ble_eq_true rfl) _ rfl dL_law_218 ⟨show uc ≤ 600000 by omega, show us ≤ 7302250 by omega⟩ rfl (fun r10 g11 hV => ?_)
        refine jj_icmp_eq (pc2 := 224) hC 1121 dL_law_221 (by decide) rfl (fun h12 => ?_) (fun h12 => ?_)
        · have hV := hV.1 h12
          refine jj_iinc (pc2 := 1124) hC (x3 + 5) [(3, .int (x3 + 5)), (0, .ref b), (1, .ref (ad 0)), (2, .ref (ad2 0))] dL_law_1121 3 rfl rfl (by decide) rfl rfl ?_
          refine jj_goto hC 18 dL_law_1124 (by decide) ?_
          exact jj_sub (lv2 := [(0, .ref b), (1, .ref (ad 0)), (2, .ref (ad2 0)), (3, .int (x3 + 5))]) [1, 2, 3, 0] rfl (ih (x3 + 5) uc us (g9, g11) hV)
        · have hV := hV.2 h12
          refine jj_iconst (pc2 := 225) hC 0 dL_law_224 (by decide) rfl ?_
          exact hV.elim
      · have hV := hV.2.2.1 hs
        refine jj_tabIn (off := 194) hC 226 dL_law_32 (fun q => h2 (Or.inl q)) (fun q => h2 (Or.inr q)) (by rw [hs]; decide) (by decide) ?_
        refine jj_aload_n (pc2 := 227) hC dL_law_226 rfl 1 rfl rfl ?_
        refine jj_aload_n (pc2 := 228) hC dL_law_227 rfl 0 rfl rfl ?_
        refine jj_iload_n (pc2 := 229) hC dL_law_228 rfl 3 rfl rfl ?_
        refine jj_iconst (pc2 := 230) hC 1 dL_law_229 (by decide) rfl ?_
        refine jj_iadd (pc2 := 231) hC dL_law_230 rfl ?_
        refine jl_sld (pc2 := 232) hC hX hbl hV.1 dL_law_231 rfl ?_
        have hV := hV.2
        refine jl_CI (pc2 := 235) (gc := g.1) (gr := g.2) (rest := []) hC (kc_X10_routine l D cs [] (wr_W cs ad2 g.2) ad (xs (x3 + 1).toNatClampNeg) g.1 _ hV) (cwV 1 hC.1.2.2.2.2 gL_law_X10_routine rfl rfl rfl (by decide +kernel) ⟨by decide, by decide⟩) rfl (Nat.le_of_ble_eq_true rfl) _ rfl dL_law_232 ⟨show uc ≤ 600000 by omega, show us ≤ 7302250 by omega⟩ rfl (fun r13 g14 hV => ?_)
        refine jj_aload_n (pc2 := 236) hC dL_law_235 rfl 2 rfl rfl ?_
        refine jj_aload_n (pc2 := 237) hC dL_law_236 rfl 0 rfl rfl ?_
        refine jj_iload_n (pc2 := 238) hC dL_law_237 rfl 3 rfl rfl ?_
        refine jj_iconst (pc2 := 239) hC 1 dL_law_238 (by decide) rfl ?_
        refine jj_iadd (pc2 := 240) hC dL_law_239 rfl ?_
        refine jl_sld (pc2 := 241) hC hX hbl hV.1 dL_law_240 rfl ?_
        have hV := hV.2
        refine jl_RI (pc2 := 244) (gc := g14) (gr := g.2) (rest := [.int r13]) hC (cr_routine l D cs (wc_W cs ad g14 ++ wc_X cs g14.1) [] ad2 (xs (x3 + 1).toNatClampNeg) g.2 _ hV) (cwV 1 hC.1.2.2.2.2 gL_law_X11_routine rfl rfl rfl (by decide +kernel) ⟨by decide, by decide⟩) rfl (Nat.le_of_ble_eq_true rfl) _ rfl dL_law_241 ⟨show uc ≤ 600000 by omega, show us ≤ 7302250 by omega⟩ rfl (fun r15 g16 hV => ?_)
        refine jj_icmp_eq (pc2 := 247) hC 1121 dL_law_244 (by decide) rfl (fun h17 => ?_) (fun h17 => ?_)
        · have hV := hV.1 h17
          refine jj_iinc (pc2 := 1124) hC (x3 + 5) [(3, .int (x3 + 5)), (0, .ref b), (1, .ref (ad 0)), (2, .ref (ad2 0))] dL_law_1121 3 rfl rfl (by decide) rfl rfl ?_
          refine jj_goto hC 18 dL_law_1124 (by decide) ?_
          exact jj_sub (lv2 := [(0, .ref b), (1, .ref (ad 0)), (2, .ref (ad2 0)), (3, .int (x3 + 5))]) [1, 2, 3, 0] rfl (ih (x3 + 5) uc us (g14, g16) hV)
        · have hV := hV.2 h17
          refine jj_iconst (pc2 := 248) hC 0 dL_law_247 (by decide) rfl ?_
          exact hV.elim
      · have hV := hV.2.2.2.1 hs
        refine jj_tabIn (off := 217) hC 249 dL_law_32 (fun q => h2 (Or.inl q)) (fun q => h2 (Or.inr q)) (by rw [hs]; decide) (by decide) ?_
        refine jj_aload_n (pc2 := 250) hC dL_law_249 rfl 1 rfl rfl ?_
        refine jj_aload_n (pc2 := 251) hC dL_law_250 rfl 0 rfl rfl ?_
        refine jj_iload_n (pc2 := 252) hC dL_law_251 rfl 3 rfl rfl ?_
        refine jj_iconst (pc2 := 253) hC 1 dL_law_252 (by decide) rfl ?_
        refine jj_iadd (pc2 := 254) hC dL_law_253 rfl ?_
        refine jl_sld (pc2 := 255) hC hX hbl hV.1 dL_law_254 rfl ?_
        have hV := hV.2
        refine jj_aload_n (pc2 := 256) hC dL_law_255 rfl 0 rfl rfl ?_
        refine jj_iload_n (pc2 := 257) hC dL_law_256 rfl 3 rfl rfl ?_
        refine jj_iconst (pc2 := 258) hC 2 dL_law_257 (by decide) rfl ?_
        refine jj_iadd (pc2 := 259) hC dL_law_258 rfl ?_
        refine jl_sld (pc2 := 260) hC hX hbl hV.1 dL_law_259 rfl ?_
        have hV := hV.2
        refine jj_aload_n (pc2 := 261) hC dL_law_260 rfl 0 rfl rfl ?_
        refine jj_iload_n (pc2 := 262) hC dL_law_261 rfl 3 rfl rfl ?_
        refine jj_iconst (pc2 := 263) hC 3 dL_law_262 (by decide) rfl ?_
        refine jj_iadd (pc2 := 264) hC dL_law_263 rfl ?_
        refine jl_sld (pc2 := 265) hC hX hbl hV.1 dL_law_264 rfl ?_
        have hV := hV.2
        refine jj_aload_n (pc2 := 266) hC dL_law_265 rfl 0 rfl rfl ?_
        refine jj_iload_n (pc2 := 267) hC dL_law_266 rfl 3 rfl rfl ?_
        refine jj_iconst (pc2 := 268) hC 4 dL_law_267 (by decide) rfl ?_
        refine jj_iadd (pc2 := 269) hC dL_law_268 rfl ?_
        refine jl_sld (pc2 := 270) hC hX hbl hV.1 dL_law_269 rfl ?_
        have hV := hV.2
        refine jl_CI (pc2 := 273) (gc := g.1) (gr := g.2) (rest := []) hC (kc_X10_line l D cs [] (wr_W cs ad2 g.2) ad (xs (x3 + 1).toNatClampNeg) (xs (x3 + 2).toNatClampNeg) (xs (x3 + 3).toNatClampNeg) (xs (x3 + 4).toNatClampNeg) g.1 _ hV) (cwV 4 hC.1.2.2.2.2 gL_law_X10_line rfl rfl rfl (by decide +kernel) ⟨by decide, by decide⟩) rfl (Nat.le_of_ble_eq_true rfl) _ rfl dL_law_270 ⟨show uc ≤ 600000 by omega, show us ≤ 7302250 by omega⟩ rfl (fun r18 g19 hV => ?_)
        refine jj_aload_n (pc2 := 274) hC dL_law_273 rfl 2 rfl rfl ?_
        refine jj_aload_n (pc2 := 275) hC dL_law_274 rfl 0 rfl rfl ?_
        refine jj_iload_n (pc2 := 276) hC dL_law_275 rfl 3 rfl rfl ?_
        refine jj_iconst (pc2 := 277) hC 1 dL_law_276 (by decide) rfl ?_
        refine jj_iadd (pc2 := 278) hC dL_law_277 rfl ?_
        refine jl_sld (pc2 := 279) hC hX hbl hV.1 dL_law_278 rfl ?_
        have hV := hV.2
        refine jj_aload_n (pc2 := 280) hC dL_law_279 rfl 0 rfl rfl ?_
        refine jj_iload_n (pc2 := 281) hC dL_law_280 rfl 3 rfl rfl ?_
        refine jj_iconst (pc2 := 282) hC 2 dL_law_281 (by decide) rfl ?_
        refine jj_iadd (pc2 := 283) hC dL_law_282 rfl ?_
        refine jl_sld (pc2 := 284) hC hX hbl hV.1 dL_law_283 rfl ?_
        have hV := hV.2
        refine jj_aload_n (pc2 := 285) hC dL_law_284 rfl 0 rfl rfl ?_
        refine jj_iload_n (pc2 := 286) hC dL_law_285 rfl 3 rfl rfl ?_
        refine jj_iconst (pc2 := 287) hC 3 dL_law_286 (by decide) rfl ?_
        refine jj_iadd (pc2 := 288) hC dL_law_287 rfl ?_
        refine jl_sld (pc2 := 289) hC hX hbl hV.1 dL_law_288 rfl ?_
        have hV := hV.2
        refine jj_aload_n (pc2 := 290) hC dL_law_289 rfl 0 rfl rfl ?_
        refine jj_iload_n (pc2 := 291) hC dL_law_290 rfl 3 rfl rfl ?_
        refine jj_iconst (pc2 := 292) hC 4 dL_law_291 (by decide) rfl ?_
        refine jj_iadd (pc2 := 293) hC dL_law_292 rfl ?_
        refine jl_sld (pc2 := 294) hC hX hbl hV.1 dL_law_293 rfl ?_
        have hV := hV.2
        refine jl_RI (pc2 := 297) (gc := g19) (gr := g.2) (rest := [.int r18]) hC (cr_line l D cs (wc_W cs ad g19 ++ wc_X cs g19.1) [] ad2 (xs (x3 + 1).toNatClampNeg) (xs (x3 + 2).toNatClampNeg) (xs (x3 + 3).toNatClampNeg) (xs (x3 + 4).toNatClampNeg) g.2 _ hV) (cwV 4 hC.1.2.2.2.2 gL_law_X11_line rfl rfl rfl (by decide +kernel) ⟨by decide, by decide⟩) rfl (Nat.le_of_ble_eq_true rfl) _ rfl dL_law_294 ⟨show uc ≤ 600000 by omega, show us ≤ 7302250 by omega⟩ rfl (fun r20 g21 hV => ?_)
        refine jj_icmp_eq (pc2 := 300) hC 1121 dL_law_297 (by decide) rfl (fun h22 => ?_) (fun h22 => ?_)
        · have hV := hV.1 h22
          refine jj_iinc (pc2 := 1124) hC (x3 + 5) [(3, .int (x3 + 5)), (0, .ref b), (1, .ref (ad 0)), (2, .ref (ad2 0))] dL_law_1121 3 rfl rfl (by decide) rfl rfl ?_
          refine jj_goto hC 18 dL_law_1124 (by decide) ?_
          exact jj_sub (lv2 := [(0, .ref b), (1, .ref (ad 0)), (2, .ref (ad2 0)), (3, .int (x3 + 5))]) [1, 2, 3, 0] rfl (ih (x3 + 5) uc us (g19, g21) hV)
        · have hV := hV.2 h22
          refine jj_iconst (pc2 := 301) hC 0 dL_law_300 (by decide) rfl ?_
          exact hV.elim
      · have hV := hV.2.2.2.2.1 hs
        refine jj_tabIn (off := 270) hC 302 dL_law_32 (fun q => h2 (Or.inl q)) (fun q => h2 (Or.inr q)) (by rw [hs]; decide) (by decide) ?_
        refine jj_aload_n (pc2 := 303) hC dL_law_302 rfl 1 rfl rfl ?_
        refine jj_aload_n (pc2 := 304) hC dL_law_303 rfl 0 rfl rfl ?_
        refine jj_iload_n (pc2 := 305) hC dL_law_304 rfl 3 rfl rfl ?_
        refine jj_iconst (pc2 := 306) hC 1 dL_law_305 (by decide) rfl ?_
        refine jj_iadd (pc2 := 307) hC dL_law_306 rfl ?_
        refine jl_sld (pc2 := 308) hC hX hbl hV.1 dL_law_307 rfl ?_
        have hV := hV.2
        refine jl_CI (pc2 := 311) (gc := g.1) (gr := g.2) (rest := []) hC (kc_X10_clear l D cs [] (wr_W cs ad2 g.2) ad (xs (x3 + 1).toNatClampNeg) g.1 _ hV) (cwV 1 hC.1.2.2.2.2 gL_law_X10_clear rfl rfl rfl (by decide +kernel) ⟨by decide, by decide⟩) rfl (Nat.le_of_ble_eq_true rfl) _ rfl dL_law_308 ⟨show uc ≤ 600000 by omega, show us ≤ 7302250 by omega⟩ rfl (fun r23 g24 hV => ?_)
        refine jj_aload_n (pc2 := 312) hC dL_law_311 rfl 2 rfl rfl ?_
        refine jj_aload_n (pc2 := 313) hC dL_law_312 rfl 0 rfl rfl ?_
        refine jj_iload_n (pc2 := 314) hC dL_law_313 rfl 3 rfl rfl ?_
        refine jj_iconst (pc2 := 315) hC 1 dL_law_314 (by decide) rfl ?_
        refine jj_iadd (pc2 := 316) hC dL_law_315 rfl ?_
        refine jl_sld (pc2 := 317) hC hX hbl hV.1 dL_law_316 rfl ?_
        have hV := hV.2
        refine jl_RI (pc2 := 320) (gc := g24) (gr := g.2) (rest := [.int r23]) hC (cr_clear l D cs (wc_W cs ad g24 ++ wc_X cs g24.1) [] ad2 (xs (x3 + 1).toNatClampNeg) g.2 _ hV) (cwV 1 hC.1.2.2.2.2 gL_law_X11_clear rfl rfl rfl (by decide +kernel) ⟨by decide, by decide⟩) rfl (Nat.le_of_ble_eq_true rfl) _ rfl dL_law_317 ⟨show uc ≤ 600000 by omega, show us ≤ 7302250 by omega⟩ rfl (fun r25 g26 hV => ?_)
        refine jj_icmp_eq (pc2 := 323) hC 1121 dL_law_320 (by decide) rfl (fun h27 => ?_) (fun h27 => ?_)
        · have hV := hV.1 h27
          refine jj_iinc (pc2 := 1124) hC (x3 + 5) [(3, .int (x3 + 5)), (0, .ref b), (1, .ref (ad 0)), (2, .ref (ad2 0))] dL_law_1121 3 rfl rfl (by decide) rfl rfl ?_
          refine jj_goto hC 18 dL_law_1124 (by decide) ?_
          exact jj_sub (lv2 := [(0, .ref b), (1, .ref (ad 0)), (2, .ref (ad2 0)), (3, .int (x3 + 5))]) [1, 2, 3, 0] rfl (ih (x3 + 5) uc us (g24, g26) hV)
        · have hV := hV.2 h27
          refine jj_iconst (pc2 := 324) hC 0 dL_law_323 (by decide) rfl ?_
          exact hV.elim
      · have hV := hV.2.2.2.2.2.1 hs
        refine jj_tabIn (off := 293) hC 325 dL_law_32 (fun q => h2 (Or.inl q)) (fun q => h2 (Or.inr q)) (by rw [hs]; decide) (by decide) ?_
        refine jj_aload_n (pc2 := 326) hC dL_law_325 rfl 1 rfl rfl ?_
        refine jj_aload_n (pc2 := 327) hC dL_law_326 rfl 0 rfl rfl ?_
        refine jj_iload_n (pc2 := 328) hC dL_law_327 rfl 3 rfl rfl ?_
        refine jj_iconst (pc2 := 329) hC 1 dL_law_328 (by decide) rfl ?_
        refine jj_iadd (pc2 := 330) hC dL_law_329 rfl ?_
        refine jl_sld (pc2 := 331) hC hX hbl hV.1 dL_law_330 rfl ?_
        have hV := hV.2
        refine jj_aload_n (pc2 := 332) hC dL_law_331 rfl 0 rfl rfl ?_
        refine jj_iload_n (pc2 := 333) hC dL_law_332 rfl 3 rfl rfl ?_
        refine jj_iconst (pc2 := 334) hC 2 dL_law_333 (by decide) rfl ?_
        refine jj_iadd (pc2 := 335) hC dL_law_334 rfl ?_
        refine jl_sld (pc2 := 336) hC hX hbl hV.1 dL_law_335 rfl ?_
        have hV := hV.2
        obtain ⟨mc30, ms31, hmc30, hms31, hV⟩ := hV
        refine jl_CIa (pc2 := 339) (gc := g.1) (gr := g.2) (rest := []) hC (kc_X10_run l D cs [] (wr_W cs ad2 g.2) ad mc30 ms31 (xs (x3 + 1).toNatClampNeg) (xs (x3 + 2).toNatClampNeg) g.1 _ hV) (cwV 2 hC.1.2.2.2.2 gL_law_X10_run rfl rfl rfl (by decide +kernel) ⟨by show 5 + 1 ≤ 2048; omega, by show 8 + (3 + 11) + 131 ≤ 84000; omega⟩) rfl (Nat.le_of_ble_eq_true rfl) _ rfl dL_law_336 ⟨hmc30, hms31⟩ rfl (fun r28 g29 hV => ?_)
        refine jj_aload_n (pc2 := 340) hC dL_law_339 rfl 2 rfl rfl ?_
        refine jj_aload_n (pc2 := 341) hC dL_law_340 rfl 0 rfl rfl ?_
        refine jj_iload_n (pc2 := 342) hC dL_law_341 rfl 3 rfl rfl ?_
        refine jj_iconst (pc2 := 343) hC 1 dL_law_342 (by decide) rfl ?_
        refine jj_iadd (pc2 := 344) hC dL_law_343 rfl ?_
        refine jl_sld (pc2 := 345) hC hX hbl hV.1 dL_law_344 rfl ?_
        have hV := hV.2
        refine jj_aload_n (pc2 := 346) hC dL_law_345 rfl 0 rfl rfl ?_
        refine jj_iload_n (pc2 := 347) hC dL_law_346 rfl 3 rfl rfl ?_
        refine jj_iconst (pc2 := 348) hC 2 dL_law_347 (by decide) rfl ?_
        refine jj_iadd (pc2 := 349) hC dL_law_348 rfl ?_
        refine jl_sld (pc2 := 350) hC hX hbl hV.1 dL_law_349 rfl ?_
        have hV := hV.2
        refine jl_RI (pc2 := 353) (gc := g29) (gr := g.2) (rest := [.int r28]) hC (cr_run l D cs (wc_W cs ad g29 ++ wc_X cs g29.1) [] ad2 (xs (x3 + 1).toNatClampNeg) (xs (x3 + 2).toNatClampNeg) g.2 _ hV) (cwV 2 hC.1.2.2.2.2 gL_law_X11_run rfl rfl rfl (by decide +kernel) ⟨by decide, by decide⟩) rfl (Nat.le_of_ble_eq_true rfl) _ rfl dL_law_350 ⟨show uc + mc30 ≤ 600000 by omega, show us + ms31 ≤ 7302250 by omega⟩ rfl (fun r32 g33 hV => ?_)
        refine jj_icmp_eq (pc2 := 356) hC 1121 dL_law_353 (by decide) rfl (fun h34 => ?_) (fun h34 => ?_)
        · have hV := hV.1 h34
          refine jj_iinc (pc2 := 1124) hC (x3 + 5) [(3, .int (x3 + 5)), (0, .ref b), (1, .ref (ad 0)), (2, .ref (ad2 0))] dL_law_1121 3 rfl rfl (by decide) rfl rfl ?_
          refine jj_goto hC 18 dL_law_1124 (by decide) ?_
          exact jj_sub (lv2 := [(0, .ref b), (1, .ref (ad 0)), (2, .ref (ad2 0)), (3, .int (x3 + 5))]) [1, 2, 3, 0] rfl (ih (x3 + 5) (uc + mc30) (us + ms31) (g29, g33) hV)
        · have hV := hV.2 h34
          refine jj_iconst (pc2 := 357) hC 0 dL_law_356 (by decide) rfl ?_
          exact hV.elim
      · have hV := hV.2.2.2.2.2.2.1 hs
        refine jj_tabIn (off := 326) hC 358 dL_law_32 (fun q => h2 (Or.inl q)) (fun q => h2 (Or.inr q)) (by rw [hs]; decide) (by decide) ?_
        refine jj_aload_n (pc2 := 359) hC dL_law_358 rfl 1 rfl rfl ?_
        refine jj_aload_n (pc2 := 360) hC dL_law_359 rfl 0 rfl rfl ?_
        refine jj_iload_n (pc2 := 361) hC dL_law_360 rfl 3 rfl rfl ?_
        refine jj_iconst (pc2 := 362) hC 1 dL_law_361 (by decide) rfl ?_
        refine jj_iadd (pc2 := 363) hC dL_law_362 rfl ?_
        refine jl_sld (pc2 := 364) hC hX hbl hV.1 dL_law_363 rfl ?_
        have hV := hV.2
        refine jj_aload_n (pc2 := 365) hC dL_law_364 rfl 0 rfl rfl ?_
        refine jj_iload_n (pc2 := 366) hC dL_law_365 rfl 3 rfl rfl ?_
        refine jj_iconst (pc2 := 367) hC 2 dL_law_366 (by decide) rfl ?_
        refine jj_iadd (pc2 := 368) hC dL_law_367 rfl ?_
        refine jl_sld (pc2 := 369) hC hX hbl hV.1 dL_law_368 rfl ?_
        have hV := hV.2
        refine jj_aload_n (pc2 := 370) hC dL_law_369 rfl 0 rfl rfl ?_
        refine jj_iload_n (pc2 := 371) hC dL_law_370 rfl 3 rfl rfl ?_
        refine jj_iconst (pc2 := 372) hC 3 dL_law_371 (by decide) rfl ?_
        refine jj_iadd (pc2 := 373) hC dL_law_372 rfl ?_
        refine jl_sld (pc2 := 374) hC hX hbl hV.1 dL_law_373 rfl ?_
        have hV := hV.2
        refine jl_CIp (pc2 := 377) (gc := g.1) (gr := g.2) (rest := []) hC (kc_X10_cell l D cs [] (wr_W cs ad2 g.2) ad (xs (x3 + 1).toNatClampNeg) (xs (x3 + 2).toNatClampNeg) (xs (x3 + 3).toNatClampNeg) g.1 _ hV) (cwV 3 hC.1.2.2.2.2 gL_law_X10_cell rfl rfl rfl (by decide +kernel) ⟨by decide, by decide⟩) rfl (Nat.le_of_ble_eq_true rfl) _ rfl dL_law_374 ⟨show uc ≤ 600000 by omega, show us ≤ 7302250 by omega⟩ rfl (fun r35 hV => ?_)
        refine jj_aload_n (pc2 := 378) hC dL_law_377 rfl 2 rfl rfl ?_
        refine jj_aload_n (pc2 := 379) hC dL_law_378 rfl 0 rfl rfl ?_
        refine jj_iload_n (pc2 := 380) hC dL_law_379 rfl 3 rfl rfl ?_
        refine jj_iconst (pc2 := 381) hC 1 dL_law_380 (by decide) rfl ?_
        refine jj_iadd (pc2 := 382) hC dL_law_381 rfl ?_
        refine jl_sld (pc2 := 383) hC hX hbl hV.1 dL_law_382 rfl ?_
        have hV := hV.2
        refine jj_aload_n (pc2 := 384) hC dL_law_383 rfl 0 rfl rfl ?_
        refine jj_iload_n (pc2 := 385) hC dL_law_384 rfl 3 rfl rfl ?_
        refine jj_iconst (pc2 := 386) hC 2 dL_law_385 (by decide) rfl ?_
        refine jj_iadd (pc2 := 387) hC dL_law_386 rfl ?_
        refine jl_sld (pc2 := 388) hC hX hbl hV.1 dL_law_387 rfl ?_
        have hV := hV.2
        refine jj_aload_n (pc2 := 389) hC dL_law_388 rfl 0 rfl rfl ?_
        refine jj_iload_n (pc2 := 390) hC dL_law_389 rfl 3 rfl rfl ?_
        refine jj_iconst (pc2 := 391) hC 3 dL_law_390 (by decide) rfl ?_
        refine jj_iadd (pc2 := 392) hC dL_law_391 rfl ?_
        refine jl_sld (pc2 := 393) hC hX hbl hV.1 dL_law_392 rfl ?_
        have hV := hV.2
        refine jl_RIp (pc2 := 396) (gc := g.1) (gr := g.2) (rest := [.int r35]) hC (cr_cell l D cs (wc_W cs ad g.1 ++ wc_X cs g.1.1) [] ad2 (xs (x3 + 1).toNatClampNeg) (xs (x3 + 2).toNatClampNeg) (xs (x3 + 3).toNatClampNeg) g.2 _ hV) (cwV 3 hC.1.2.2.2.2 gL_law_X11_cell rfl rfl rfl (by decide +kernel) ⟨by decide, by decide⟩) rfl (Nat.le_of_ble_eq_true rfl) _ rfl dL_law_393 ⟨show uc ≤ 600000 by omega, show us ≤ 7302250 by omega⟩ rfl (fun r36 hV => ?_)
        refine jj_icmp_eq (pc2 := 399) hC 1121 dL_law_396 (by decide) rfl (fun h37 => ?_) (fun h37 => ?_)
        · have hV := hV.1 h37
          refine jj_iinc (pc2 := 1124) hC (x3 + 5) [(3, .int (x3 + 5)), (0, .ref b), (1, .ref (ad 0)), (2, .ref (ad2 0))] dL_law_1121 3 rfl rfl (by decide) rfl rfl ?_
          refine jj_goto hC 18 dL_law_1124 (by decide) ?_
          exact jj_sub (lv2 := [(0, .ref b), (1, .ref (ad 0)), (2, .ref (ad2 0)), (3, .int (x3 + 5))]) [1, 2, 3, 0] rfl (ih (x3 + 5) uc us g hV)
        · have hV := hV.2 h37
          refine jj_iconst (pc2 := 400) hC 0 dL_law_399 (by decide) rfl ?_
          exact hV.elim
      · have hV := hV.2.2.2.2.2.2.2.1 hs
        refine jj_tabIn (off := 369) hC 401 dL_law_32 (fun q => h2 (Or.inl q)) (fun q => h2 (Or.inr q)) (by rw [hs]; decide) (by decide) ?_
        refine jj_aload_n (pc2 := 402) hC dL_law_401 rfl 1 rfl rfl ?_
        refine jj_aload_n (pc2 := 403) hC dL_law_402 rfl 0 rfl rfl ?_
        refine jj_iload_n (pc2 := 404) hC dL_law_403 rfl 3 rfl rfl ?_
        refine jj_iconst (pc2 := 405) hC 1 dL_law_404 (by decide) rfl ?_
        refine jj_iadd (pc2 := 406) hC dL_law_405 rfl ?_
        refine jl_sld (pc2 := 407) hC hX hbl hV.1 dL_law_406 rfl ?_
        have hV := hV.2
        refine jj_aload_n (pc2 := 408) hC dL_law_407 rfl 0 rfl rfl ?_
        refine jj_iload_n (pc2 := 409) hC dL_law_408 rfl 3 rfl rfl ?_
        refine jj_iconst (pc2 := 410) hC 2 dL_law_409 (by decide) rfl ?_
        refine jj_iadd (pc2 := 411) hC dL_law_410 rfl ?_
        refine jl_sld (pc2 := 412) hC hX hbl hV.1 dL_law_411 rfl ?_
        have hV := hV.2
        refine jj_aload_n (pc2 := 413) hC dL_law_412 rfl 0 rfl rfl ?_
        refine jj_iload_n (pc2 := 414) hC dL_law_413 rfl 3 rfl rfl ?_
        refine jj_iconst (pc2 := 415) hC 3 dL_law_414 (by decide) rfl ?_
        refine jj_iadd (pc2 := 416) hC dL_law_415 rfl ?_
        refine jl_sld (pc2 := 417) hC hX hbl hV.1 dL_law_416 rfl ?_
        have hV := hV.2
        refine jl_CIp (pc2 := 420) (gc := g.1) (gr := g.2) (rest := []) hC (kc_X10_counted l D cs [] (wr_W cs ad2 g.2) ad (xs (x3 + 1).toNatClampNeg) (xs (x3 + 2).toNatClampNeg) (xs (x3 + 3).toNatClampNeg) g.1 _ hV) (cwV 3 hC.1.2.2.2.2 gL_law_X10_counted rfl rfl rfl (by decide +kernel) ⟨by decide, by decide⟩) rfl (Nat.le_of_ble_eq_true rfl) _ rfl dL_law_417 ⟨show uc ≤ 600000 by omega, show us ≤ 7302250 by omega⟩ rfl (fun r38 hV => ?_)
        refine jj_aload_n (pc2 := 421) hC dL_law_420 rfl 2 rfl rfl ?_
        refine jj_aload_n (pc2 := 422) hC dL_law_421 rfl 0 rfl rfl ?_
        refine jj_iload_n (pc2 := 423) hC dL_law_422 rfl 3 rfl rfl ?_
        refine jj_iconst (pc2 := 424) hC 1 dL_law_423 (by decide) rfl ?_
        refine jj_iadd (pc2 := 425) hC dL_law_424 rfl ?_
        refine jl_sld (pc2 := 426) hC hX hbl hV.1 dL_law_425 rfl ?_
        have hV := hV.2
        refine jj_aload_n (pc2 := 427) hC dL_law_426 rfl 0 rfl rfl ?_
        refine jj_iload_n (pc2 := 428) hC dL_law_427 rfl 3 rfl rfl ?_
        refine jj_iconst (pc2 := 429) hC 2 dL_law_428 (by decide) rfl ?_
        refine jj_iadd (pc2 := 430) hC dL_law_429 rfl ?_
        refine jl_sld (pc2 := 431) hC hX hbl hV.1 dL_law_430 rfl ?_
        have hV := hV.2
        refine jj_aload_n (pc2 := 432) hC dL_law_431 rfl 0 rfl rfl ?_
        refine jj_iload_n (pc2 := 433) hC dL_law_432 rfl 3 rfl rfl ?_
        refine jj_iconst (pc2 := 434) hC 3 dL_law_433 (by decide) rfl ?_
        refine jj_iadd (pc2 := 435) hC dL_law_434 rfl ?_
        refine jl_sld (pc2 := 436) hC hX hbl hV.1 dL_law_435 rfl ?_
        have hV := hV.2
        refine jl_RIp (pc2 := 439) (gc := g.1) (gr := g.2) (rest := [.int r38]) hC (cr_counted l D cs (wc_W cs ad g.1 ++ wc_X cs g.1.1) [] ad2 (xs (x3 + 1).toNatClampNeg) (xs (x3 + 2).toNatClampNeg) (xs (x3 + 3).toNatClampNeg) g.2 _ hV) (cwV 3 hC.1.2.2.2.2 gL_law_X11_counted rfl rfl rfl (by decide +kernel) ⟨by decide, by decide⟩) rfl (Nat.le_of_ble_eq_true rfl) _ rfl dL_law_436 ⟨show uc ≤ 600000 by omega, show us ≤ 7302250 by omega⟩ rfl (fun r39 hV => ?_)
        refine jj_icmp_eq (pc2 := 442) hC 1121 dL_law_439 (by decide) rfl (fun h40 => ?_) (fun h40 => ?_)
        · have hV := hV.1 h40
          refine jj_iinc (pc2 := 1124) hC (x3 + 5) [(3, .int (x3 + 5)), (0, .ref b), (1, .ref (ad 0)), (2, .ref (ad2 0))] dL_law_1121 3 rfl rfl (by decide) rfl rfl ?_
          refine jj_goto hC 18 dL_law_1124 (by decide) ?_
          exact jj_sub (lv2 := [(0, .ref b), (1, .ref (ad 0)), (2, .ref (ad2 0)), (3, .int (x3 + 5))]) [1, 2, 3, 0] rfl (ih (x3 + 5) uc us g hV)
        · have hV := hV.2 h40
          refine jj_iconst (pc2 := 443) hC 0 dL_law_442 (by decide) rfl ?_
          exact hV.elim
      · have hV := hV.2.2.2.2.2.2.2.2.1 hs
        refine jj_tabIn (off := 412) hC 444 dL_law_32 (fun q => h2 (Or.inl q)) (fun q => h2 (Or.inr q)) (by rw [hs]; decide) (by decide) ?_
        refine jj_aload_n (pc2 := 445) hC dL_law_444 rfl 1 rfl rfl ?_
        refine jj_aload_n (pc2 := 446) hC dL_law_445 rfl 0 rfl rfl ?_
        refine jj_iload_n (pc2 := 447) hC dL_law_446 rfl 3 rfl rfl ?_
        refine jj_iconst (pc2 := 448) hC 1 dL_law_447 (by decide) rfl ?_
        refine jj_iadd (pc2 := 449) hC dL_law_448 rfl ?_
        refine jl_sld (pc2 := 450) hC hX hbl hV.1 dL_law_449 rfl ?_
        have hV := hV.2
        refine jj_aload_n (pc2 := 451) hC dL_law_450 rfl 0 rfl rfl ?_
        refine jj_iload_n (pc2 := 452) hC dL_law_451 rfl 3 rfl rfl ?_
        refine jj_iconst (pc2 := 453) hC 2 dL_law_452 (by decide) rfl ?_
        refine jj_iadd (pc2 := 454) hC dL_law_453 rfl ?_
        refine jl_sld (pc2 := 455) hC hX hbl hV.1 dL_law_454 rfl ?_
        have hV := hV.2
        refine jj_aload_n (pc2 := 456) hC dL_law_455 rfl 0 rfl rfl ?_
        refine jj_iload_n (pc2 := 457) hC dL_law_456 rfl 3 rfl rfl ?_
        refine jj_iconst (pc2 := 458) hC 3 dL_law_457 (by decide) rfl ?_
        refine jj_iadd (pc2 := 459) hC dL_law_458 rfl ?_
        refine jl_sld (pc2 := 460) hC hX hbl hV.1 dL_law_459 rfl ?_
        have hV := hV.2
        refine jl_CIp (pc2 := 463) (gc := g.1) (gr := g.2) (rest := []) hC (kc_X10_tied l D cs [] (wr_W cs ad2 g.2) ad (xs (x3 + 1).toNatClampNeg) (xs (x3 + 2).toNatClampNeg) (xs (x3 + 3).toNatClampNeg) g.1 _ hV) (cwV 3 hC.1.2.2.2.2 gL_law_X10_tied rfl rfl rfl (by decide +kernel) ⟨by decide, by decide⟩) rfl (Nat.le_of_ble_eq_true rfl) _ rfl dL_law_460 ⟨show uc ≤ 600000 by omega, show us ≤ 7302250 by omega⟩ rfl (fun r41 hV => ?_)
        refine jj_aload_n (pc2 := 464) hC dL_law_463 rfl 2 rfl rfl ?_
        refine jj_aload_n (pc2 := 465) hC dL_law_464 rfl 0 rfl rfl ?_
        refine jj_iload_n (pc2 := 466) hC dL_law_465 rfl 3 rfl rfl ?_
        refine jj_iconst (pc2 := 467) hC 1 dL_law_466 (by decide) rfl ?_
        refine jj_iadd (pc2 := 468) hC dL_law_467 rfl ?_
        refine jl_sld (pc2 := 469) hC hX hbl hV.1 dL_law_468 rfl ?_
        have hV := hV.2
        refine jj_aload_n (pc2 := 470) hC dL_law_469 rfl 0 rfl rfl ?_
        refine jj_iload_n (pc2 := 471) hC dL_law_470 rfl 3 rfl rfl ?_
        refine jj_iconst (pc2 := 472) hC 2 dL_law_471 (by decide) rfl ?_
        refine jj_iadd (pc2 := 473) hC dL_law_472 rfl ?_
        refine jl_sld (pc2 := 474) hC hX hbl hV.1 dL_law_473 rfl ?_
        have hV := hV.2
        refine jj_aload_n (pc2 := 475) hC dL_law_474 rfl 0 rfl rfl ?_
        refine jj_iload_n (pc2 := 476) hC dL_law_475 rfl 3 rfl rfl ?_
        refine jj_iconst (pc2 := 477) hC 3 dL_law_476 (by decide) rfl ?_
        refine jj_iadd (pc2 := 478) hC dL_law_477 rfl ?_
        refine jl_sld (pc2 := 479) hC hX hbl hV.1 dL_law_478 rfl ?_
        have hV := hV.2
        refine jl_RIp (pc2 := 482) (gc := g.1) (gr := g.2) (rest := [.int r41]) hC (cr_tied l D cs (wc_W cs ad g.1 ++ wc_X cs g.1.1) [] ad2 (xs (x3 + 1).toNatClampNeg) (xs (x3 + 2).toNatClampNeg) (xs (x3 + 3).toNatClampNeg) g.2 _ hV) (cwV 3 hC.1.2.2.2.2 gL_law_X11_tied rfl rfl rfl (by decide +kernel) ⟨by decide, by decide⟩) rfl (Nat.le_of_ble_eq_true rfl) _ rfl dL_law_479 ⟨show uc ≤ 600000 by omega, show us ≤ 7302250 by omega⟩ rfl (fun r42 hV => ?_)
        refine jj_icmp_eq (pc2 := 485) hC 1121 dL_law_482 (by decide) rfl (fun h43 => ?_) (fun h43 => ?_)
        · have hV := hV.1 h43
          refine jj_iinc (pc2 := 1124) hC (x3 + 5) [(3, .int (x3 + 5)), (0, .ref b), (1, .ref (ad 0)), (2, .ref (ad2 0))] dL_law_1121 3 rfl rfl (by decide) rfl rfl ?_
          refine jj_goto hC 18 dL_law_1124 (by decide) ?_
          exact jj_sub (lv2 := [(0, .ref b), (1, .ref (ad 0)), (2, .ref (ad2 0)), (3, .int (x3 + 5))]) [1, 2, 3, 0] rfl (ih (x3 + 5) uc us g hV)
        · have hV := hV.2 h43
          refine jj_iconst (pc2 := 486) hC 0 dL_law_485 (by decide) rfl ?_
          exact hV.elim
      · have hV := hV.2.2.2.2.2.2.2.2.2.1 hs
        refine jj_tabIn (off := 455) hC 487 dL_law_32 (fun q => h2 (Or.inl q)) (fun q => h2 (Or.inr q)) (by rw [hs]; decide) (by decide) ?_
        refine jj_aload_n (pc2 := 488) hC dL_law_487 rfl 1 rfl rfl ?_
        refine jj_aload_n (pc2 := 489) hC dL_law_488 rfl 0 rfl rfl ?_
        refine jj_iload_n (pc2 := 490) hC dL_law_489 rfl 3 rfl rfl ?_
        refine jj_iconst (pc2 := 491) hC 1 dL_law_490 (by decide) rfl ?_
        refine jj_iadd (pc2 := 492) hC dL_law_491 rfl ?_
        refine jl_sld (pc2 := 493) hC hX hbl hV.1 dL_law_492 rfl ?_
        have hV := hV.2
        refine jj_aload_n (pc2 := 494) hC dL_law_493 rfl 0 rfl rfl ?_
        refine jj_iload_n (pc2 := 495) hC dL_law_494 rfl 3 rfl rfl ?_
        refine jj_iconst (pc2 := 496) hC 2 dL_law_495 (by decide) rfl ?_
        refine jj_iadd (pc2 := 497) hC dL_law_496 rfl ?_
        refine jl_sld (pc2 := 498) hC hX hbl hV.1 dL_law_497 rfl ?_
        have hV := hV.2
        refine jl_CI (pc2 := 501) (gc := g.1) (gr := g.2) (rest := []) hC (kc_X10_room l D cs [] (wr_W cs ad2 g.2) ad (xs (x3 + 1).toNatClampNeg) (xs (x3 + 2).toNatClampNeg) g.1 _ hV) (cwV 2 hC.1.2.2.2.2 gL_law_X10_room rfl rfl rfl (by decide +kernel) ⟨by decide, by decide⟩) rfl (Nat.le_of_ble_eq_true rfl) _ rfl dL_law_498 ⟨show uc ≤ 600000 by omega, show us ≤ 7302250 by omega⟩ rfl (fun r44 g45 hV => ?_)
        refine jj_aload_n (pc2 := 502) hC dL_law_501 rfl 2 rfl rfl ?_
        refine jj_aload_n (pc2 := 503) hC dL_law_502 rfl 0 rfl rfl ?_
        refine jj_iload_n (pc2 := 504) hC dL_law_503 rfl 3 rfl rfl ?_
        refine jj_iconst (pc2 := 505) hC 1 dL_law_504 (by decide) rfl ?_
        refine jj_iadd (pc2 := 506) hC dL_law_505 rfl ?_
        refine jl_sld (pc2 := 507) hC hX hbl hV.1 dL_law_506 rfl ?_
        have hV := hV.2
        refine jj_aload_n (pc2 := 508) hC dL_law_507 rfl 0 rfl rfl ?_
        refine jj_iload_n (pc2 := 509) hC dL_law_508 rfl 3 rfl rfl ?_
        refine jj_iconst (pc2 := 510) hC 2 dL_law_509 (by decide) rfl ?_
        refine jj_iadd (pc2 := 511) hC dL_law_510 rfl ?_
        refine jl_sld (pc2 := 512) hC hX hbl hV.1 dL_law_511 rfl ?_
        have hV := hV.2
        refine jl_RI (pc2 := 515) (gc := g45) (gr := g.2) (rest := [.int r44]) hC (cr_room l D cs (wc_W cs ad g45 ++ wc_X cs g45.1) [] ad2 (xs (x3 + 1).toNatClampNeg) (xs (x3 + 2).toNatClampNeg) g.2 _ hV) (cwV 2 hC.1.2.2.2.2 gL_law_X11_room rfl rfl rfl (by decide +kernel) ⟨by decide, by decide⟩) rfl (Nat.le_of_ble_eq_true rfl) _ rfl dL_law_512 ⟨show uc ≤ 600000 by omega, show us ≤ 7302250 by omega⟩ rfl (fun r46 g47 hV => ?_)
        refine jj_icmp_eq (pc2 := 518) hC 1121 dL_law_515 (by decide) rfl (fun h48 => ?_) (fun h48 => ?_)
        · have hV := hV.1 h48
          refine jj_iinc (pc2 := 1124) hC (x3 + 5) [(3, .int (x3 + 5)), (0, .ref b), (1, .ref (ad 0)), (2, .ref (ad2 0))] dL_law_1121 3 rfl rfl (by decide) rfl rfl ?_
          refine jj_goto hC 18 dL_law_1124 (by decide) ?_
          exact jj_sub (lv2 := [(0, .ref b), (1, .ref (ad 0)), (2, .ref (ad2 0)), (3, .int (x3 + 5))]) [1, 2, 3, 0] rfl (ih (x3 + 5) uc us (g45, g47) hV)
        · have hV := hV.2 h48
          refine jj_iconst (pc2 := 519) hC 0 dL_law_518 (by decide) rfl ?_
          exact hV.elim
      · have hV := hV.2.2.2.2.2.2.2.2.2.2.1 hs
        refine jj_tabIn (off := 488) hC 520 dL_law_32 (fun q => h2 (Or.inl q)) (fun q => h2 (Or.inr q)) (by rw [hs]; decide) (by decide) ?_
        refine jj_aload_n (pc2 := 521) hC dL_law_520 rfl 1 rfl rfl ?_
        refine jj_aload_n (pc2 := 522) hC dL_law_521 rfl 0 rfl rfl ?_
        refine jj_iload_n (pc2 := 523) hC dL_law_522 rfl 3 rfl rfl ?_
        refine jj_iconst (pc2 := 524) hC 1 dL_law_523 (by decide) rfl ?_
        refine jj_iadd (pc2 := 525) hC dL_law_524 rfl ?_
        refine jl_sld (pc2 := 526) hC hX hbl hV.1 dL_law_525 rfl ?_
        have hV := hV.2
        refine jj_aload_n (pc2 := 527) hC dL_law_526 rfl 0 rfl rfl ?_
        refine jj_iload_n (pc2 := 528) hC dL_law_527 rfl 3 rfl rfl ?_
        refine jj_iconst (pc2 := 529) hC 2 dL_law_528 (by decide) rfl ?_
        refine jj_iadd (pc2 := 530) hC dL_law_529 rfl ?_
        refine jl_sld (pc2 := 531) hC hX hbl hV.1 dL_law_530 rfl ?_
        have hV := hV.2
        refine jl_CI (pc2 := 534) (gc := g.1) (gr := g.2) (rest := []) hC (kc_X10_weight l D cs [] (wr_W cs ad2 g.2) ad (xs (x3 + 1).toNatClampNeg) (xs (x3 + 2).toNatClampNeg) g.1 _ hV) (cwV 2 hC.1.2.2.2.2 gL_law_X10_weight rfl rfl rfl (by decide +kernel) ⟨by decide, by decide⟩) rfl (Nat.le_of_ble_eq_true rfl) _ rfl dL_law_531 ⟨show uc ≤ 600000 by omega, show us ≤ 7302250 by omega⟩ rfl (fun r49 g50 hV => ?_)
        refine jj_aload_n (pc2 := 535) hC dL_law_534 rfl 2 rfl rfl ?_
        refine jj_aload_n (pc2 := 536) hC dL_law_535 rfl 0 rfl rfl ?_
        refine jj_iload_n (pc2 := 537) hC dL_law_536 rfl 3 rfl rfl ?_
        refine jj_iconst (pc2 := 538) hC 1 dL_law_537 (by decide) rfl ?_
        refine jj_iadd (pc2 := 539) hC dL_law_538 rfl ?_
        refine jl_sld (pc2 := 540) hC hX hbl hV.1 dL_law_539 rfl ?_
        have hV := hV.2
        refine jj_aload_n (pc2 := 541) hC dL_law_540 rfl 0 rfl rfl ?_
        refine jj_iload_n (pc2 := 542) hC dL_law_541 rfl 3 rfl rfl ?_
        refine jj_iconst (pc2 := 543) hC 2 dL_law_542 (by decide) rfl ?_
        refine jj_iadd (pc2 := 544) hC dL_law_543 rfl ?_
        refine jl_sld (pc2 := 545) hC hX hbl hV.1 dL_law_544 rfl ?_
        have hV := hV.2
        refine jl_RI (pc2 := 548) (gc := g50) (gr := g.2) (rest := [.int r49]) hC (cr_weight l D cs (wc_W cs ad g50 ++ wc_X cs g50.1) [] ad2 (xs (x3 + 1).toNatClampNeg) (xs (x3 + 2).toNatClampNeg) g.2 _ hV) (cwV 2 hC.1.2.2.2.2 gL_law_X11_weight rfl rfl rfl (by decide +kernel) ⟨by decide, by decide⟩) rfl (Nat.le_of_ble_eq_true rfl) _ rfl dL_law_545 ⟨show uc ≤ 600000 by omega, show us ≤ 7302250 by omega⟩ rfl (fun r51 g52 hV => ?_)
        refine jj_icmp_eq (pc2 := 551) hC 1121 dL_law_548 (by decide) rfl (fun h53 => ?_) (fun h53 => ?_)
        · have hV := hV.1 h53
          refine jj_iinc (pc2 := 1124) hC (x3 + 5) [(3, .int (x3 + 5)), (0, .ref b), (1, .ref (ad 0)), (2, .ref (ad2 0))] dL_law_1121 3 rfl rfl (by decide) rfl rfl ?_
          refine jj_goto hC 18 dL_law_1124 (by decide) ?_
          exact jj_sub (lv2 := [(0, .ref b), (1, .ref (ad 0)), (2, .ref (ad2 0)), (3, .int (x3 + 5))]) [1, 2, 3, 0] rfl (ih (x3 + 5) uc us (g50, g52) hV)
        · have hV := hV.2 h53
          refine jj_iconst (pc2 := 552) hC 0 dL_law_551 (by decide) rfl ?_
          exact hV.elim
      · have hV := hV.2.2.2.2.2.2.2.2.2.2.2.1 hs
        refine jj_tabIn (off := 521) hC 553 dL_law_32 (fun q => h2 (Or.inl q)) (fun q => h2 (Or.inr q)) (by rw [hs]; decide) (by decide) ?_
        refine jj_aload_n (pc2 := 554) hC dL_law_553 rfl 1 rfl rfl ?_
        refine jj_aload_n (pc2 := 555) hC dL_law_554 rfl 0 rfl rfl ?_
        refine jj_iload_n (pc2 := 556) hC dL_law_555 rfl 3 rfl rfl ?_
        refine jj_iconst (pc2 := 557) hC 1 dL_law_556 (by decide) rfl ?_
        refine jj_iadd (pc2 := 558) hC dL_law_557 rfl ?_
        refine jl_sld (pc2 := 559) hC hX hbl hV.1 dL_law_558 rfl ?_
        have hV := hV.2
        refine jj_aload_n (pc2 := 560) hC dL_law_559 rfl 0 rfl rfl ?_
        refine jj_iload_n (pc2 := 561) hC dL_law_560 rfl 3 rfl rfl ?_
        refine jj_iconst (pc2 := 562) hC 2 dL_law_561 (by decide) rfl ?_
        refine jj_iadd (pc2 := 563) hC dL_law_562 rfl ?_
        refine jl_sld (pc2 := 564) hC hX hbl hV.1 dL_law_563 rfl ?_
        have hV := hV.2
        refine jj_aload_n (pc2 := 565) hC dL_law_564 rfl 0 rfl rfl ?_
        refine jj_iload_n (pc2 := 566) hC dL_law_565 rfl 3 rfl rfl ?_
        refine jj_iconst (pc2 := 567) hC 3 dL_law_566 (by decide) rfl ?_
        refine jj_iadd (pc2 := 568) hC dL_law_567 rfl ?_
        refine jl_sld (pc2 := 569) hC hX hbl hV.1 dL_law_568 rfl ?_
        have hV := hV.2
        refine jl_CI (pc2 := 572) (gc := g.1) (gr := g.2) (rest := []) hC (kc_X10_tell l D cs [] (wr_W cs ad2 g.2) ad (xs (x3 + 1).toNatClampNeg) (xs (x3 + 2).toNatClampNeg) (xs (x3 + 3).toNatClampNeg) g.1 _ hV) (cwV 3 hC.1.2.2.2.2 gL_law_X10_tell rfl rfl rfl (by decide +kernel) ⟨by decide, by decide⟩) rfl (Nat.le_of_ble_eq_true rfl) _ rfl dL_law_569 ⟨show uc ≤ 600000 by omega, show us ≤ 7302250 by omega⟩ rfl (fun r54 g55 hV => ?_)
        refine jj_aload_n (pc2 := 573) hC dL_law_572 rfl 2 rfl rfl ?_
        refine jj_aload_n (pc2 := 574) hC dL_law_573 rfl 0 rfl rfl ?_
        refine jj_iload_n (pc2 := 575) hC dL_law_574 rfl 3 rfl rfl ?_
        refine jj_iconst (pc2 := 576) hC 1 dL_law_575 (by decide) rfl ?_
        refine jj_iadd (pc2 := 577) hC dL_law_576 rfl ?_
        refine jl_sld (pc2 := 578) hC hX hbl hV.1 dL_law_577 rfl ?_
        have hV := hV.2
        refine jj_aload_n (pc2 := 579) hC dL_law_578 rfl 0 rfl rfl ?_
        refine jj_iload_n (pc2 := 580) hC dL_law_579 rfl 3 rfl rfl ?_
        refine jj_iconst (pc2 := 581) hC 2 dL_law_580 (by decide) rfl ?_
        refine jj_iadd (pc2 := 582) hC dL_law_581 rfl ?_
        refine jl_sld (pc2 := 583) hC hX hbl hV.1 dL_law_582 rfl ?_
        have hV := hV.2
        refine jj_aload_n (pc2 := 584) hC dL_law_583 rfl 0 rfl rfl ?_
        refine jj_iload_n (pc2 := 585) hC dL_law_584 rfl 3 rfl rfl ?_
        refine jj_iconst (pc2 := 586) hC 3 dL_law_585 (by decide) rfl ?_
        refine jj_iadd (pc2 := 587) hC dL_law_586 rfl ?_
        refine jl_sld (pc2 := 588) hC hX hbl hV.1 dL_law_587 rfl ?_
        have hV := hV.2
        refine jl_RI (pc2 := 591) (gc := g55) (gr := g.2) (rest := [.int r54]) hC (cr_tell l D cs (wc_W cs ad g55 ++ wc_X cs g55.1) [] ad2 (xs (x3 + 1).toNatClampNeg) (xs (x3 + 2).toNatClampNeg) (xs (x3 + 3).toNatClampNeg) g.2 _ hV) (cwV 3 hC.1.2.2.2.2 gL_law_X11_tell rfl rfl rfl (by decide +kernel) ⟨by decide, by decide⟩) rfl (Nat.le_of_ble_eq_true rfl) _ rfl dL_law_588 ⟨show uc ≤ 600000 by omega, show us ≤ 7302250 by omega⟩ rfl (fun r56 g57 hV => ?_)
        refine jj_icmp_eq (pc2 := 594) hC 1121 dL_law_591 (by decide) rfl (fun h58 => ?_) (fun h58 => ?_)
        · have hV := hV.1 h58
          refine jj_iinc (pc2 := 1124) hC (x3 + 5) [(3, .int (x3 + 5)), (0, .ref b), (1, .ref (ad 0)), (2, .ref (ad2 0))] dL_law_1121 3 rfl rfl (by decide) rfl rfl ?_
          refine jj_goto hC 18 dL_law_1124 (by decide) ?_
          exact jj_sub (lv2 := [(0, .ref b), (1, .ref (ad 0)), (2, .ref (ad2 0)), (3, .int (x3 + 5))]) [1, 2, 3, 0] rfl (ih (x3 + 5) uc us (g55, g57) hV)
        · have hV := hV.2 h58
          refine jj_iconst (pc2 := 595) hC 0 dL_law_594 (by decide) rfl ?_
          exact hV.elim
      · have hV := hV.2.2.2.2.2.2.2.2.2.2.2.2.1 hs
        refine jj_tabIn (off := 564) hC 596 dL_law_32 (fun q => h2 (Or.inl q)) (fun q => h2 (Or.inr q)) (by rw [hs]; decide) (by decide) ?_
        refine jj_aload_n (pc2 := 597) hC dL_law_596 rfl 1 rfl rfl ?_
        refine jl_CL (pc2 := 600) (gc := g.1) (gr := g.2) (rest := []) hC (kc_X10_price l D cs [] (wr_W cs ad2 g.2) ad  g.1 _ hV) (cwV 0 hC.1.2.2.2.2 gL_law_X10_price rfl rfl rfl (by decide +kernel) ⟨by decide, by decide⟩) rfl (Nat.le_of_ble_eq_true rfl) _ rfl dL_law_597 ⟨show uc ≤ 600000 by omega, show us ≤ 7302250 by omega⟩ rfl (fun r59 g60 hV => ?_)
        refine jj_aload_n (pc2 := 601) hC dL_law_600 rfl 2 rfl rfl ?_
        refine jl_RLp (pc2 := 604) (gc := g60) (gr := g.2) (rest := [.long r59]) hC (cr_price l D cs (wc_W cs ad g60 ++ wc_X cs g60.1) [] ad2  g.2 _ hV) (cwV 0 hC.1.2.2.2.2 gL_law_X11_price rfl rfl rfl (by decide +kernel) ⟨by decide, by decide⟩) rfl (Nat.le_of_ble_eq_true rfl) _ rfl dL_law_601 ⟨show uc ≤ 600000 by omega, show us ≤ 7302250 by omega⟩ rfl (fun r61 hV => ?_)
        refine jj_lcmp (pc2 := 605) hC dL_law_604 rfl ?_
        refine jj_if_eq (pc2 := 608) hC 1121 dL_law_605 (by decide) rfl (fun h62 => ?_) (fun h62 => ?_)
        · have hV := hV.1 h62
          refine jj_iinc (pc2 := 1124) hC (x3 + 5) [(3, .int (x3 + 5)), (0, .ref b), (1, .ref (ad 0)), (2, .ref (ad2 0))] dL_law_1121 3 rfl rfl (by decide) rfl rfl ?_
          refine jj_goto hC 18 dL_law_1124 (by decide) ?_
          exact jj_sub (lv2 := [(0, .ref b), (1, .ref (ad 0)), (2, .ref (ad2 0)), (3, .int (x3 + 5))]) [1, 2, 3, 0] rfl (ih (x3 + 5) uc us (g60, g.2) hV)
        · have hV := hV.2 h62
          refine jj_iconst (pc2 := 609) hC 0 dL_law_608 (by decide) rfl ?_
          exact hV.elim
      · have hV := hV.2.2.2.2.2.2.2.2.2.2.2.2.2.1 hs
        refine jj_tabIn (off := 578) hC 610 dL_law_32 (fun q => h2 (Or.inl q)) (fun q => h2 (Or.inr q)) (by rw [hs]; decide) (by decide) ?_
        refine jj_aload_n (pc2 := 611) hC dL_law_610 rfl 1 rfl rfl ?_
        refine jj_aload_n (pc2 := 612) hC dL_law_611 rfl 0 rfl rfl ?_
        refine jj_iload_n (pc2 := 613) hC dL_law_612 rfl 3 rfl rfl ?_
        refine jj_iconst (pc2 := 614) hC 1 dL_law_613 (by decide) rfl ?_
        refine jj_iadd (pc2 := 615) hC dL_law_614 rfl ?_
        refine jl_sld (pc2 := 616) hC hX hbl hV.1 dL_law_615 rfl ?_
        have hV := hV.2
        refine jj_aload_n (pc2 := 617) hC dL_law_616 rfl 0 rfl rfl ?_
        refine jj_iload_n (pc2 := 618) hC dL_law_617 rfl 3 rfl rfl ?_
        refine jj_iconst (pc2 := 619) hC 2 dL_law_618 (by decide) rfl ?_
        refine jj_iadd (pc2 := 620) hC dL_law_619 rfl ?_
        refine jl_sld (pc2 := 621) hC hX hbl hV.1 dL_law_620 rfl ?_
        have hV := hV.2
        refine jl_CL (pc2 := 624) (gc := g.1) (gr := g.2) (rest := []) hC (kc_X10_cut l D cs [] (wr_W cs ad2 g.2) ad (xs (x3 + 1).toNatClampNeg) (xs (x3 + 2).toNatClampNeg) g.1 _ hV) (cwV 2 hC.1.2.2.2.2 gL_law_X10_cut rfl rfl rfl (by decide +kernel) ⟨by decide, by decide⟩) rfl (Nat.le_of_ble_eq_true rfl) _ rfl dL_law_621 ⟨show uc ≤ 600000 by omega, show us ≤ 7302250 by omega⟩ rfl (fun r63 g64 hV => ?_)
        refine jj_aload_n (pc2 := 625) hC dL_law_624 rfl 2 rfl rfl ?_
        refine jj_aload_n (pc2 := 626) hC dL_law_625 rfl 0 rfl rfl ?_
        refine jj_iload_n (pc2 := 627) hC dL_law_626 rfl 3 rfl rfl ?_
        refine jj_iconst (pc2 := 628) hC 1 dL_law_627 (by decide) rfl ?_
        refine jj_iadd (pc2 := 629) hC dL_law_628 rfl ?_
        refine jl_sld (pc2 := 630) hC hX hbl hV.1 dL_law_629 rfl ?_
        have hV := hV.2
        refine jj_aload_n (pc2 := 631) hC dL_law_630 rfl 0 rfl rfl ?_
        refine jj_iload_n (pc2 := 632) hC dL_law_631 rfl 3 rfl rfl ?_
        refine jj_iconst (pc2 := 633) hC 2 dL_law_632 (by decide) rfl ?_
        refine jj_iadd (pc2 := 634) hC dL_law_633 rfl ?_
        refine jl_sld (pc2 := 635) hC hX hbl hV.1 dL_law_634 rfl ?_
        have hV := hV.2
        refine jl_RL (pc2 := 638) (gc := g64) (gr := g.2) (rest := [.long r63]) hC (cr_cut l D cs (wc_W cs ad g64 ++ wc_X cs g64.1) [] ad2 (xs (x3 + 1).toNatClampNeg) (xs (x3 + 2).toNatClampNeg) g.2 _ hV) (cwV 2 hC.1.2.2.2.2 gL_law_X11_cut rfl rfl rfl (by decide +kernel) ⟨by decide, by decide⟩) rfl (Nat.le_of_ble_eq_true rfl) _ rfl dL_law_635 ⟨show uc ≤ 600000 by omega, show us ≤ 7302250 by omega⟩ rfl (fun r65 g66 hV => ?_)
        refine jj_lcmp (pc2 := 639) hC dL_law_638 rfl ?_
        refine jj_if_eq (pc2 := 642) hC 1121 dL_law_639 (by decide) rfl (fun h67 => ?_) (fun h67 => ?_)
        · have hV := hV.1 h67
          refine jj_iinc (pc2 := 1124) hC (x3 + 5) [(3, .int (x3 + 5)), (0, .ref b), (1, .ref (ad 0)), (2, .ref (ad2 0))] dL_law_1121 3 rfl rfl (by decide) rfl rfl ?_
          refine jj_goto hC 18 dL_law_1124 (by decide) ?_
          exact jj_sub (lv2 := [(0, .ref b), (1, .ref (ad 0)), (2, .ref (ad2 0)), (3, .int (x3 + 5))]) [1, 2, 3, 0] rfl (ih (x3 + 5) uc us (g64, g66) hV)
        · have hV := hV.2 h67
          refine jj_iconst (pc2 := 643) hC 0 dL_law_642 (by decide) rfl ?_
          exact hV.elim
      · have hV := hV.2.2.2.2.2.2.2.2.2.2.2.2.2.2.1 hs
        refine jj_tabIn (off := 612) hC 644 dL_law_32 (fun q => h2 (Or.inl q)) (fun q => h2 (Or.inr q)) (by rw [hs]; decide) (by decide) ?_
        refine jj_aload_n (pc2 := 645) hC dL_law_644 rfl 1 rfl rfl ?_
        refine jj_aload_n (pc2 := 646) hC dL_law_645 rfl 0 rfl rfl ?_
        refine jj_iload_n (pc2 := 647) hC dL_law_646 rfl 3 rfl rfl ?_
        refine jj_iconst (pc2 := 648) hC 1 dL_law_647 (by decide) rfl ?_
        refine jj_iadd (pc2 := 649) hC dL_law_648 rfl ?_
        refine jl_sld (pc2 := 650) hC hX hbl hV.1 dL_law_649 rfl ?_
        have hV := hV.2
        refine jl_CIp (pc2 := 653) (gc := g.1) (gr := g.2) (rest := []) hC (kc_X10_put l D cs [] (wr_W cs ad2 g.2) ad (xs (x3 + 1).toNatClampNeg) g.1 _ hV) (cwV 1 hC.1.2.2.2.2 gL_law_X10_put rfl rfl rfl (by decide +kernel) ⟨by decide, by decide⟩) rfl (Nat.le_of_ble_eq_true rfl) _ rfl dL_law_650 ⟨show uc ≤ 600000 by omega, show us ≤ 7302250 by omega⟩ rfl (fun r68 hV => ?_)
        refine jj_aload_n (pc2 := 654) hC dL_law_653 rfl 2 rfl rfl ?_
        refine jj_aload_n (pc2 := 655) hC dL_law_654 rfl 0 rfl rfl ?_
        refine jj_iload_n (pc2 := 656) hC dL_law_655 rfl 3 rfl rfl ?_
        refine jj_iconst (pc2 := 657) hC 1 dL_law_656 (by decide) rfl ?_
        refine jj_iadd (pc2 := 658) hC dL_law_657 rfl ?_
        refine jl_sld (pc2 := 659) hC hX hbl hV.1 dL_law_658 rfl ?_
        have hV := hV.2
        refine jl_RIp (pc2 := 662) (gc := g.1) (gr := g.2) (rest := [.int r68]) hC (cr_put l D cs (wc_W cs ad g.1 ++ wc_X cs g.1.1) [] ad2 (xs (x3 + 1).toNatClampNeg) g.2 _ hV) (cwV 1 hC.1.2.2.2.2 gL_law_X11_put rfl rfl rfl (by decide +kernel) ⟨by decide, by decide⟩) rfl (Nat.le_of_ble_eq_true rfl) _ rfl dL_law_659 ⟨show uc ≤ 600000 by omega, show us ≤ 7302250 by omega⟩ rfl (fun r69 hV => ?_)
        refine jj_icmp_eq (pc2 := 665) hC 1121 dL_law_662 (by decide) rfl (fun h70 => ?_) (fun h70 => ?_)
        · have hV := hV.1 h70
          refine jj_iinc (pc2 := 1124) hC (x3 + 5) [(3, .int (x3 + 5)), (0, .ref b), (1, .ref (ad 0)), (2, .ref (ad2 0))] dL_law_1121 3 rfl rfl (by decide) rfl rfl ?_
          refine jj_goto hC 18 dL_law_1124 (by decide) ?_
          exact jj_sub (lv2 := [(0, .ref b), (1, .ref (ad 0)), (2, .ref (ad2 0)), (3, .int (x3 + 5))]) [1, 2, 3, 0] rfl (ih (x3 + 5) uc us g hV)
        · have hV := hV.2 h70
          refine jj_iconst (pc2 := 666) hC 0 dL_law_665 (by decide) rfl ?_
          exact hV.elim
      · have hV := hV.2.2.2.2.2.2.2.2.2.2.2.2.2.2.2.1 hs
        refine jj_tabIn (off := 635) hC 667 dL_law_32 (fun q => h2 (Or.inl q)) (fun q => h2 (Or.inr q)) (by rw [hs]; decide) (by decide) ?_
        refine jj_aload_n (pc2 := 668) hC dL_law_667 rfl 1 rfl rfl ?_
        refine jj_aload_n (pc2 := 669) hC dL_law_668 rfl 0 rfl rfl ?_
        refine jj_iload_n (pc2 := 670) hC dL_law_669 rfl 3 rfl rfl ?_
        refine jj_iconst (pc2 := 671) hC 1 dL_law_670 (by decide) rfl ?_
        refine jj_iadd (pc2 := 672) hC dL_law_671 rfl ?_
        refine jl_sld (pc2 := 673) hC hX hbl hV.1 dL_law_672 rfl ?_
        have hV := hV.2
        refine jl_CI (pc2 := 676) (gc := g.1) (gr := g.2) (rest := []) hC (kc_X10_ring l D cs [] (wr_W cs ad2 g.2) ad (xs (x3 + 1).toNatClampNeg) g.1 _ hV) (cwV 1 hC.1.2.2.2.2 gL_law_X10_ring rfl rfl rfl (by decide +kernel) ⟨by decide, by decide⟩) rfl (Nat.le_of_ble_eq_true rfl) _ rfl dL_law_673 ⟨show uc ≤ 600000 by omega, show us ≤ 7302250 by omega⟩ rfl (fun r71 g72 hV => ?_)
        refine jj_aload_n (pc2 := 677) hC dL_law_676 rfl 2 rfl rfl ?_
        refine jj_aload_n (pc2 := 678) hC dL_law_677 rfl 0 rfl rfl ?_
        refine jj_iload_n (pc2 := 679) hC dL_law_678 rfl 3 rfl rfl ?_
        refine jj_iconst (pc2 := 680) hC 1 dL_law_679 (by decide) rfl ?_
        refine jj_iadd (pc2 := 681) hC dL_law_680 rfl ?_
        refine jl_sld (pc2 := 682) hC hX hbl hV.1 dL_law_681 rfl ?_
        have hV := hV.2
        refine jl_RI (pc2 := 685) (gc := g72) (gr := g.2) (rest := [.int r71]) hC (cr_ring l D cs (wc_W cs ad g72 ++ wc_X cs g72.1) [] ad2 (xs (x3 + 1).toNatClampNeg) g.2 _ hV) (cwV 1 hC.1.2.2.2.2 gL_law_X11_ring rfl rfl rfl (by decide +kernel) ⟨by decide, by decide⟩) rfl (Nat.le_of_ble_eq_true rfl) _ rfl dL_law_682 ⟨show uc ≤ 600000 by omega, show us ≤ 7302250 by omega⟩ rfl (fun r73 g74 hV => ?_)
        refine jj_icmp_eq (pc2 := 688) hC 1121 dL_law_685 (by decide) rfl (fun h75 => ?_) (fun h75 => ?_)
        · have hV := hV.1 h75
          refine jj_iinc (pc2 := 1124) hC (x3 + 5) [(3, .int (x3 + 5)), (0, .ref b), (1, .ref (ad 0)), (2, .ref (ad2 0))] dL_law_1121 3 rfl rfl (by decide) rfl rfl ?_
          refine jj_goto hC 18 dL_law_1124 (by decide) ?_
          exact jj_sub (lv2 := [(0, .ref b), (1, .ref (ad 0)), (2, .ref (ad2 0)), (3, .int (x3 + 5))]) [1, 2, 3, 0] rfl (ih (x3 + 5) uc us (g72, g74) hV)
        · have hV := hV.2 h75
          refine jj_iconst (pc2 := 689) hC 0 dL_law_688 (by decide) rfl ?_
          exact hV.elim
      · have hV := hV.2.2.2.2.2.2.2.2.2.2.2.2.2.2.2.2.1 hs
        refine jj_tabIn (off := 658) hC 690 dL_law_32 (fun q => h2 (Or.inl q)) (fun q => h2 (Or.inr q)) (by rw [hs]; decide) (by decide) ?_
        refine jj_aload_n (pc2 := 691) hC dL_law_690 rfl 1 rfl rfl ?_
        refine jj_aload_n (pc2 := 692) hC dL_law_691 rfl 0 rfl rfl ?_
        refine jj_iload_n (pc2 := 693) hC dL_law_692 rfl 3 rfl rfl ?_
        refine jj_iconst (pc2 := 694) hC 1 dL_law_693 (by decide) rfl ?_
        refine jj_iadd (pc2 := 695) hC dL_law_694 rfl ?_
        refine jl_sld (pc2 := 696) hC hX hbl hV.1 dL_law_695 rfl ?_
        have hV := hV.2
        refine jj_aload_n (pc2 := 697) hC dL_law_696 rfl 0 rfl rfl ?_
        refine jj_iload_n (pc2 := 698) hC dL_law_697 rfl 3 rfl rfl ?_
        refine jj_iconst (pc2 := 699) hC 2 dL_law_698 (by decide) rfl ?_
        refine jj_iadd (pc2 := 700) hC dL_law_699 rfl ?_
        refine jl_sld (pc2 := 701) hC hX hbl hV.1 dL_law_700 rfl ?_
        have hV := hV.2
        obtain ⟨mc78, ms79, hmc78, hms79, hV⟩ := hV
        refine jl_CIa (pc2 := 704) (gc := g.1) (gr := g.2) (rest := []) hC (kc_X10_act l D cs [] (wr_W cs ad2 g.2) ad mc78 ms79 (xs (x3 + 1).toNatClampNeg) (xs (x3 + 2).toNatClampNeg) g.1 _ hV) (cwV 2 hC.1.2.2.2.2 gL_law_X10_act rfl rfl rfl (by decide +kernel) ⟨by show 5 + 1 ≤ 2048; omega, by show 8 + (3 + 11) + 136 ≤ 84000; omega⟩) rfl (Nat.le_of_ble_eq_true rfl) _ rfl dL_law_701 ⟨hmc78, hms79⟩ rfl (fun r76 g77 hV => ?_)
        refine jj_aload_n (pc2 := 705) hC dL_law_704 rfl 2 rfl rfl ?_
        refine jj_aload_n (pc2 := 706) hC dL_law_705 rfl 0 rfl rfl ?_
        refine jj_iload_n (pc2 := 707) hC dL_law_706 rfl 3 rfl rfl ?_
        refine jj_iconst (pc2 := 708) hC 1 dL_law_707 (by decide) rfl ?_
        refine jj_iadd (pc2 := 709) hC dL_law_708 rfl ?_
        refine jl_sld (pc2 := 710) hC hX hbl hV.1 dL_law_709 rfl ?_
        have hV := hV.2
        refine jj_aload_n (pc2 := 711) hC dL_law_710 rfl 0 rfl rfl ?_
        refine jj_iload_n (pc2 := 712) hC dL_law_711 rfl 3 rfl rfl ?_
        refine jj_iconst (pc2 := 713) hC 2 dL_law_712 (by decide) rfl ?_
        refine jj_iadd (pc2 := 714) hC dL_law_713 rfl ?_
        refine jl_sld (pc2 := 715) hC hX hbl hV.1 dL_law_714 rfl ?_
        have hV := hV.2
        refine jl_RI (pc2 := 718) (gc := g77) (gr := g.2) (rest := [.int r76]) hC (cr_act l D cs (wc_W cs ad g77 ++ wc_X cs g77.1) [] ad2 (xs (x3 + 1).toNatClampNeg) (xs (x3 + 2).toNatClampNeg) g.2 _ hV) (cwV 2 hC.1.2.2.2.2 gL_law_X11_act rfl rfl rfl (by decide +kernel) ⟨by decide, by decide⟩) rfl (Nat.le_of_ble_eq_true rfl) _ rfl dL_law_715 ⟨show uc + mc78 ≤ 600000 by omega, show us + ms79 ≤ 7302250 by omega⟩ rfl (fun r80 g81 hV => ?_)
        refine jj_icmp_eq (pc2 := 721) hC 1121 dL_law_718 (by decide) rfl (fun h82 => ?_) (fun h82 => ?_)
        · have hV := hV.1 h82
          refine jj_iinc (pc2 := 1124) hC (x3 + 5) [(3, .int (x3 + 5)), (0, .ref b), (1, .ref (ad 0)), (2, .ref (ad2 0))] dL_law_1121 3 rfl rfl (by decide) rfl rfl ?_
          refine jj_goto hC 18 dL_law_1124 (by decide) ?_
          exact jj_sub (lv2 := [(0, .ref b), (1, .ref (ad 0)), (2, .ref (ad2 0)), (3, .int (x3 + 5))]) [1, 2, 3, 0] rfl (ih (x3 + 5) (uc + mc78) (us + ms79) (g77, g81) hV)
        · have hV := hV.2 h82
          refine jj_iconst (pc2 := 722) hC 0 dL_law_721 (by decide) rfl ?_
          exact hV.elim
      · have hV := hV.2.2.2.2.2.2.2.2.2.2.2.2.2.2.2.2.2.1 hs
        refine jj_tabIn (off := 691) hC 723 dL_law_32 (fun q => h2 (Or.inl q)) (fun q => h2 (Or.inr q)) (by rw [hs]; decide) (by decide) ?_
        refine jj_aload_n (pc2 := 724) hC dL_law_723 rfl 1 rfl rfl ?_
        refine jj_aload_n (pc2 := 725) hC dL_law_724 rfl 0 rfl rfl ?_
        refine jj_iload_n (pc2 := 726) hC dL_law_725 rfl 3 rfl rfl ?_
        refine jj_iconst (pc2 := 727) hC 1 dL_law_726 (by decide) rfl ?_
        refine jj_iadd (pc2 := 728) hC dL_law_727 rfl ?_
        refine jl_sld (pc2 := 729) hC hX hbl hV.1 dL_law_728 rfl ?_
        have hV := hV.2
        refine jl_CI (pc2 := 732) (gc := g.1) (gr := g.2) (rest := []) hC (kc_X10_deliver l D cs [] (wr_W cs ad2 g.2) ad (xs (x3 + 1).toNatClampNeg) g.1 _ hV) (cwV 1 hC.1.2.2.2.2 gL_law_X10_deliver rfl rfl rfl (by decide +kernel) ⟨by decide, by decide⟩) rfl (Nat.le_of_ble_eq_true rfl) _ rfl dL_law_729 ⟨show uc ≤ 600000 by omega, show us ≤ 7302250 by omega⟩ rfl (fun r83 g84 hV => ?_)
        refine jj_aload_n (pc2 := 733) hC dL_law_732 rfl 2 rfl rfl ?_
        refine jj_aload_n (pc2 := 734) hC dL_law_733 rfl 0 rfl rfl ?_
        refine jj_iload_n (pc2 := 735) hC dL_law_734 rfl 3 rfl rfl ?_
        refine jj_iconst (pc2 := 736) hC 1 dL_law_735 (by decide) rfl ?_
        refine jj_iadd (pc2 := 737) hC dL_law_736 rfl ?_
        refine jl_sld (pc2 := 738) hC hX hbl hV.1 dL_law_737 rfl ?_
        have hV := hV.2
        refine jl_RI (pc2 := 741) (gc := g84) (gr := g.2) (rest := [.int r83]) hC (cr_deliver l D cs (wc_W cs ad g84 ++ wc_X cs g84.1) [] ad2 (xs (x3 + 1).toNatClampNeg) g.2 _ hV) (cwV 1 hC.1.2.2.2.2 gL_law_X11_deliver rfl rfl rfl (by decide +kernel) ⟨by decide, by decide⟩) rfl (Nat.le_of_ble_eq_true rfl) _ rfl dL_law_738 ⟨show uc ≤ 600000 by omega, show us ≤ 7302250 by omega⟩ rfl (fun r85 g86 hV => ?_)
        refine jj_icmp_eq (pc2 := 744) hC 1121 dL_law_741 (by decide) rfl (fun h87 => ?_) (fun h87 => ?_)
        · have hV := hV.1 h87
          refine jj_iinc (pc2 := 1124) hC (x3 + 5) [(3, .int (x3 + 5)), (0, .ref b), (1, .ref (ad 0)), (2, .ref (ad2 0))] dL_law_1121 3 rfl rfl (by decide) rfl rfl ?_
          refine jj_goto hC 18 dL_law_1124 (by decide) ?_
          exact jj_sub (lv2 := [(0, .ref b), (1, .ref (ad 0)), (2, .ref (ad2 0)), (3, .int (x3 + 5))]) [1, 2, 3, 0] rfl (ih (x3 + 5) uc us (g84, g86) hV)
        · have hV := hV.2 h87
          refine jj_iconst (pc2 := 745) hC 0 dL_law_744 (by decide) rfl ?_
          exact hV.elim
      · have hV := hV.2.2.2.2.2.2.2.2.2.2.2.2.2.2.2.2.2.2.1 hs
        refine jj_tabIn (off := 714) hC 746 dL_law_32 (fun q => h2 (Or.inl q)) (fun q => h2 (Or.inr q)) (by rw [hs]; decide) (by decide) ?_
        refine jj_aload_n (pc2 := 747) hC dL_law_746 rfl 1 rfl rfl ?_
        refine jl_CI (pc2 := 750) (gc := g.1) (gr := g.2) (rest := []) hC (kc_X10_settle l D cs [] (wr_W cs ad2 g.2) ad  g.1 _ hV) (cwV 0 hC.1.2.2.2.2 gL_law_X10_settle rfl rfl rfl (by decide +kernel) ⟨by decide, by decide⟩) rfl (Nat.le_of_ble_eq_true rfl) _ rfl dL_law_747 ⟨show uc ≤ 600000 by omega, show us ≤ 7302250 by omega⟩ rfl (fun r88 g89 hV => ?_)
        refine jj_aload_n (pc2 := 751) hC dL_law_750 rfl 2 rfl rfl ?_
        refine jl_RI (pc2 := 754) (gc := g89) (gr := g.2) (rest := [.int r88]) hC (cr_settle l D cs (wc_W cs ad g89 ++ wc_X cs g89.1) [] ad2  g.2 _ hV) (cwV 0 hC.1.2.2.2.2 gL_law_X11_settle rfl rfl rfl (by decide +kernel) ⟨by decide, by decide⟩) rfl (Nat.le_of_ble_eq_true rfl) _ rfl dL_law_751 ⟨show uc ≤ 600000 by omega, show us ≤ 7302250 by omega⟩ rfl (fun r90 g91 hV => ?_)
        refine jj_icmp_eq (pc2 := 757) hC 1121 dL_law_754 (by decide) rfl (fun h92 => ?_) (fun h92 => ?_)
        · have hV := hV.1 h92
          refine jj_iinc (pc2 := 1124) hC (x3 + 5) [(3, .int (x3 + 5)), (0, .ref b), (1, .ref (ad 0)), (2, .ref (ad2 0))] dL_law_1121 3 rfl rfl (by decide) rfl rfl ?_
          refine jj_goto hC 18 dL_law_1124 (by decide) ?_
          exact jj_sub (lv2 := [(0, .ref b), (1, .ref (ad 0)), (2, .ref (ad2 0)), (3, .int (x3 + 5))]) [1, 2, 3, 0] rfl (ih (x3 + 5) uc us (g89, g91) hV)
        · have hV := hV.2 h92
          refine jj_iconst (pc2 := 758) hC 0 dL_law_757 (by decide) rfl ?_
          exact hV.elim
      · have hV := hV.2.2.2.2.2.2.2.2.2.2.2.2.2.2.2.2.2.2.2.1 hs
        refine jj_tabIn (off := 727) hC 759 dL_law_32 (fun q => h2 (Or.inl q)) (fun q => h2 (Or.inr q)) (by rw [hs]; decide) (by decide) ?_
        refine jj_aload_n (pc2 := 760) hC dL_law_759 rfl 1 rfl rfl ?_
        refine jj_aload_n (pc2 := 761) hC dL_law_760 rfl 0 rfl rfl ?_
        refine jj_iload_n (pc2 := 762) hC dL_law_761 rfl 3 rfl rfl ?_
        refine jj_iconst (pc2 := 763) hC 1 dL_law_762 (by decide) rfl ?_
        refine jj_iadd (pc2 := 764) hC dL_law_763 rfl ?_
        refine jl_sld (pc2 := 765) hC hX hbl hV.1 dL_law_764 rfl ?_
        have hV := hV.2
        refine jj_aload_n (pc2 := 766) hC dL_law_765 rfl 0 rfl rfl ?_
        refine jj_iload_n (pc2 := 767) hC dL_law_766 rfl 3 rfl rfl ?_
        refine jj_iconst (pc2 := 768) hC 2 dL_law_767 (by decide) rfl ?_
        refine jj_iadd (pc2 := 769) hC dL_law_768 rfl ?_
        refine jl_sld (pc2 := 770) hC hX hbl hV.1 dL_law_769 rfl ?_
        have hV := hV.2
        refine jl_CIp (pc2 := 773) (gc := g.1) (gr := g.2) (rest := []) hC (kc_X10_letter l D cs [] (wr_W cs ad2 g.2) ad (xs (x3 + 1).toNatClampNeg) (xs (x3 + 2).toNatClampNeg) g.1 _ hV) (cwV 2 hC.1.2.2.2.2 gL_law_X10_letter rfl rfl rfl (by decide +kernel) ⟨by decide, by decide⟩) rfl (Nat.le_of_ble_eq_true rfl) _ rfl dL_law_770 ⟨show uc ≤ 600000 by omega, show us ≤ 7302250 by omega⟩ rfl (fun r93 hV => ?_)
        refine jj_aload_n (pc2 := 774) hC dL_law_773 rfl 2 rfl rfl ?_
        refine jj_aload_n (pc2 := 775) hC dL_law_774 rfl 0 rfl rfl ?_
        refine jj_iload_n (pc2 := 776) hC dL_law_775 rfl 3 rfl rfl ?_
        refine jj_iconst (pc2 := 777) hC 1 dL_law_776 (by decide) rfl ?_
        refine jj_iadd (pc2 := 778) hC dL_law_777 rfl ?_
        refine jl_sld (pc2 := 779) hC hX hbl hV.1 dL_law_778 rfl ?_
        have hV := hV.2
        refine jj_aload_n (pc2 := 780) hC dL_law_779 rfl 0 rfl rfl ?_
        refine jj_iload_n (pc2 := 781) hC dL_law_780 rfl 3 rfl rfl ?_
        refine jj_iconst (pc2 := 782) hC 2 dL_law_781 (by decide) rfl ?_
        refine jj_iadd (pc2 := 783) hC dL_law_782 rfl ?_
        refine jl_sld (pc2 := 784) hC hX hbl hV.1 dL_law_783 rfl ?_
        have hV := hV.2
        refine jl_RIp (pc2 := 787) (gc := g.1) (gr := g.2) (rest := [.int r93]) hC (cr_letter l D cs (wc_W cs ad g.1 ++ wc_X cs g.1.1) [] ad2 (xs (x3 + 1).toNatClampNeg) (xs (x3 + 2).toNatClampNeg) g.2 _ hV) (cwV 2 hC.1.2.2.2.2 gL_law_X11_letter rfl rfl rfl (by decide +kernel) ⟨by decide, by decide⟩) rfl (Nat.le_of_ble_eq_true rfl) _ rfl dL_law_784 ⟨show uc ≤ 600000 by omega, show us ≤ 7302250 by omega⟩ rfl (fun r94 hV => ?_)
        refine jj_icmp_eq (pc2 := 790) hC 1121 dL_law_787 (by decide) rfl (fun h95 => ?_) (fun h95 => ?_)
        · have hV := hV.1 h95
          refine jj_iinc (pc2 := 1124) hC (x3 + 5) [(3, .int (x3 + 5)), (0, .ref b), (1, .ref (ad 0)), (2, .ref (ad2 0))] dL_law_1121 3 rfl rfl (by decide) rfl rfl ?_
          refine jj_goto hC 18 dL_law_1124 (by decide) ?_
          exact jj_sub (lv2 := [(0, .ref b), (1, .ref (ad 0)), (2, .ref (ad2 0)), (3, .int (x3 + 5))]) [1, 2, 3, 0] rfl (ih (x3 + 5) uc us g hV)
        · have hV := hV.2 h95
          refine jj_iconst (pc2 := 791) hC 0 dL_law_790 (by decide) rfl ?_
          exact hV.elim
      · have hV := hV.2.2.2.2.2.2.2.2.2.2.2.2.2.2.2.2.2.2.2.2.1 hs
        refine jj_tabIn (off := 760) hC 792 dL_law_32 (fun q => h2 (Or.inl q)) (fun q => h2 (Or.inr q)) (by rw [hs]; decide) (by decide) ?_
        refine jj_aload_n (pc2 := 793) hC dL_law_792 rfl 1 rfl rfl ?_
        refine jj_aload_n (pc2 := 794) hC dL_law_793 rfl 0 rfl rfl ?_
        refine jj_iload_n (pc2 := 795) hC dL_law_794 rfl 3 rfl rfl ?_
        refine jj_iconst (pc2 := 796) hC 1 dL_law_795 (by decide) rfl ?_
        refine jj_iadd (pc2 := 797) hC dL_law_796 rfl ?_
        refine jl_sld (pc2 := 798) hC hX hbl hV.1 dL_law_797 rfl ?_
        have hV := hV.2
        refine jl_CI (pc2 := 801) (gc := g.1) (gr := g.2) (rest := []) hC (kc_X10_law l D cs [] (wr_W cs ad2 g.2) ad (xs (x3 + 1).toNatClampNeg) g.1 _ hV) (cwV 1 hC.1.2.2.2.2 gL_law_X10_law rfl rfl rfl (by decide +kernel) ⟨by decide, by decide⟩) rfl (Nat.le_of_ble_eq_true rfl) _ rfl dL_law_798 ⟨show uc ≤ 600000 by omega, show us ≤ 7302250 by omega⟩ rfl (fun r96 g97 hV => ?_)
        refine jj_aload_n (pc2 := 802) hC dL_law_801 rfl 2 rfl rfl ?_
        refine jj_aload_n (pc2 := 803) hC dL_law_802 rfl 0 rfl rfl ?_
        refine jj_iload_n (pc2 := 804) hC dL_law_803 rfl 3 rfl rfl ?_
        refine jj_iconst (pc2 := 805) hC 1 dL_law_804 (by decide) rfl ?_
        refine jj_iadd (pc2 := 806) hC dL_law_805 rfl ?_
        refine jl_sld (pc2 := 807) hC hX hbl hV.1 dL_law_806 rfl ?_
        have hV := hV.2
        refine jl_RI (pc2 := 810) (gc := g97) (gr := g.2) (rest := [.int r96]) hC (cr_law l D cs (wc_W cs ad g97 ++ wc_X cs g97.1) [] ad2 (xs (x3 + 1).toNatClampNeg) g.2 _ hV) (cwV 1 hC.1.2.2.2.2 gL_law_X11_law rfl rfl rfl (by decide +kernel) ⟨by decide, by decide⟩) rfl (Nat.le_of_ble_eq_true rfl) _ rfl dL_law_807 ⟨show uc ≤ 600000 by omega, show us ≤ 7302250 by omega⟩ rfl (fun r98 g99 hV => ?_)
        refine jj_icmp_eq (pc2 := 813) hC 1121 dL_law_810 (by decide) rfl (fun h100 => ?_) (fun h100 => ?_)
        · have hV := hV.1 h100
          refine jj_iinc (pc2 := 1124) hC (x3 + 5) [(3, .int (x3 + 5)), (0, .ref b), (1, .ref (ad 0)), (2, .ref (ad2 0))] dL_law_1121 3 rfl rfl (by decide) rfl rfl ?_
          refine jj_goto hC 18 dL_law_1124 (by decide) ?_
          exact jj_sub (lv2 := [(0, .ref b), (1, .ref (ad 0)), (2, .ref (ad2 0)), (3, .int (x3 + 5))]) [1, 2, 3, 0] rfl (ih (x3 + 5) uc us (g97, g99) hV)
        · have hV := hV.2 h100
          refine jj_iconst (pc2 := 814) hC 0 dL_law_813 (by decide) rfl ?_
          exact hV.elim
      · have hV := hV.2.2.2.2.2.2.2.2.2.2.2.2.2.2.2.2.2.2.2.2.2.1 hs
        refine jj_tabIn (off := 783) hC 815 dL_law_32 (fun q => h2 (Or.inl q)) (fun q => h2 (Or.inr q)) (by rw [hs]; decide) (by decide) ?_
        refine jj_aload_n (pc2 := 816) hC dL_law_815 rfl 1 rfl rfl ?_
        refine jj_aload_n (pc2 := 817) hC dL_law_816 rfl 0 rfl rfl ?_
        refine jj_iload_n (pc2 := 818) hC dL_law_817 rfl 3 rfl rfl ?_
        refine jj_iconst (pc2 := 819) hC 1 dL_law_818 (by decide) rfl ?_
        refine jj_iadd (pc2 := 820) hC dL_law_819 rfl ?_
        refine jl_sld (pc2 := 821) hC hX hbl hV.1 dL_law_820 rfl ?_
        have hV := hV.2
        refine jj_aload_n (pc2 := 822) hC dL_law_821 rfl 0 rfl rfl ?_
        refine jj_iload_n (pc2 := 823) hC dL_law_822 rfl 3 rfl rfl ?_
        refine jj_iconst (pc2 := 824) hC 2 dL_law_823 (by decide) rfl ?_
        refine jj_iadd (pc2 := 825) hC dL_law_824 rfl ?_
        refine jl_sld (pc2 := 826) hC hX hbl hV.1 dL_law_825 rfl ?_
        have hV := hV.2
        refine jj_aload_n (pc2 := 827) hC dL_law_826 rfl 0 rfl rfl ?_
        refine jj_iload_n (pc2 := 828) hC dL_law_827 rfl 3 rfl rfl ?_
        refine jj_iconst (pc2 := 829) hC 3 dL_law_828 (by decide) rfl ?_
        refine jj_iadd (pc2 := 830) hC dL_law_829 rfl ?_
        refine jl_sld (pc2 := 831) hC hX hbl hV.1 dL_law_830 rfl ?_
        have hV := hV.2
        refine jj_aload_n (pc2 := 832) hC dL_law_831 rfl 0 rfl rfl ?_
        refine jj_iload_n (pc2 := 833) hC dL_law_832 rfl 3 rfl rfl ?_
        refine jj_iconst (pc2 := 834) hC 4 dL_law_833 (by decide) rfl ?_
        refine jj_iadd (pc2 := 835) hC dL_law_834 rfl ?_
        refine jl_sld (pc2 := 836) hC hX hbl hV.1 dL_law_835 rfl ?_
        have hV := hV.2
        refine jl_CI (pc2 := 839) (gc := g.1) (gr := g.2) (rest := []) hC (kc_X10_term l D cs [] (wr_W cs ad2 g.2) ad (xs (x3 + 1).toNatClampNeg) (xs (x3 + 2).toNatClampNeg) (xs (x3 + 3).toNatClampNeg) (xs (x3 + 4).toNatClampNeg) g.1 _ hV) (cwV 4 hC.1.2.2.2.2 gL_law_X10_term rfl rfl rfl (by decide +kernel) ⟨by decide, by decide⟩) rfl (Nat.le_of_ble_eq_true rfl) _ rfl dL_law_836 ⟨show uc ≤ 600000 by omega, show us ≤ 7302250 by omega⟩ rfl (fun r101 g102 hV => ?_)
        refine jj_aload_n (pc2 := 840) hC dL_law_839 rfl 2 rfl rfl ?_
        refine jj_aload_n (pc2 := 841) hC dL_law_840 rfl 0 rfl rfl ?_
        refine jj_iload_n (pc2 := 842) hC dL_law_841 rfl 3 rfl rfl ?_
        refine jj_iconst (pc2 := 843) hC 1 dL_law_842 (by decide) rfl ?_
        refine jj_iadd (pc2 := 844) hC dL_law_843 rfl ?_
        refine jl_sld (pc2 := 845) hC hX hbl hV.1 dL_law_844 rfl ?_
        have hV := hV.2
        refine jj_aload_n (pc2 := 846) hC dL_law_845 rfl 0 rfl rfl ?_
        refine jj_iload_n (pc2 := 847) hC dL_law_846 rfl 3 rfl rfl ?_
        refine jj_iconst (pc2 := 848) hC 2 dL_law_847 (by decide) rfl ?_
        refine jj_iadd (pc2 := 849) hC dL_law_848 rfl ?_
        refine jl_sld (pc2 := 850) hC hX hbl hV.1 dL_law_849 rfl ?_
        have hV := hV.2
        refine jj_aload_n (pc2 := 851) hC dL_law_850 rfl 0 rfl rfl ?_
        refine jj_iload_n (pc2 := 852) hC dL_law_851 rfl 3 rfl rfl ?_
        refine jj_iconst (pc2 := 853) hC 3 dL_law_852 (by decide) rfl ?_
        refine jj_iadd (pc2 := 854) hC dL_law_853 rfl ?_
        refine jl_sld (pc2 := 855) hC hX hbl hV.1 dL_law_854 rfl ?_
        have hV := hV.2
        refine jj_aload_n (pc2 := 856) hC dL_law_855 rfl 0 rfl rfl ?_
        refine jj_iload_n (pc2 := 857) hC dL_law_856 rfl 3 rfl rfl ?_
        refine jj_iconst (pc2 := 858) hC 4 dL_law_857 (by decide) rfl ?_
        refine jj_iadd (pc2 := 859) hC dL_law_858 rfl ?_
        refine jl_sld (pc2 := 860) hC hX hbl hV.1 dL_law_859 rfl ?_
        have hV := hV.2
        refine jl_RI (pc2 := 863) (gc := g102) (gr := g.2) (rest := [.int r101]) hC (cr_term l D cs (wc_W cs ad g102 ++ wc_X cs g102.1) [] ad2 (xs (x3 + 1).toNatClampNeg) (xs (x3 + 2).toNatClampNeg) (xs (x3 + 3).toNatClampNeg) (xs (x3 + 4).toNatClampNeg) g.2 _ hV) (cwV 4 hC.1.2.2.2.2 gL_law_X11_term rfl rfl rfl (by decide +kernel) ⟨by decide, by decide⟩) rfl (Nat.le_of_ble_eq_true rfl) _ rfl dL_law_860 ⟨show uc ≤ 600000 by omega, show us ≤ 7302250 by omega⟩ rfl (fun r103 g104 hV => ?_)
        refine jj_icmp_eq (pc2 := 866) hC 1121 dL_law_863 (by decide) rfl (fun h105 => ?_) (fun h105 => ?_)
        · have hV := hV.1 h105
          refine jj_iinc (pc2 := 1124) hC (x3 + 5) [(3, .int (x3 + 5)), (0, .ref b), (1, .ref (ad 0)), (2, .ref (ad2 0))] dL_law_1121 3 rfl rfl (by decide) rfl rfl ?_
          refine jj_goto hC 18 dL_law_1124 (by decide) ?_
          exact jj_sub (lv2 := [(0, .ref b), (1, .ref (ad 0)), (2, .ref (ad2 0)), (3, .int (x3 + 5))]) [1, 2, 3, 0] rfl (ih (x3 + 5) uc us (g102, g104) hV)
        · have hV := hV.2 h105
          refine jj_iconst (pc2 := 867) hC 0 dL_law_866 (by decide) rfl ?_
          exact hV.elim
      · have hV := hV.2.2.2.2.2.2.2.2.2.2.2.2.2.2.2.2.2.2.2.2.2.2.1 hs
        refine jj_tabIn (off := 836) hC 868 dL_law_32 (fun q => h2 (Or.inl q)) (fun q => h2 (Or.inr q)) (by rw [hs]; decide) (by decide) ?_
        refine jj_aload_n (pc2 := 869) hC dL_law_868 rfl 1 rfl rfl ?_
        refine jj_aload_n (pc2 := 870) hC dL_law_869 rfl 0 rfl rfl ?_
        refine jj_iload_n (pc2 := 871) hC dL_law_870 rfl 3 rfl rfl ?_
        refine jj_iconst (pc2 := 872) hC 1 dL_law_871 (by decide) rfl ?_
        refine jj_iadd (pc2 := 873) hC dL_law_872 rfl ?_
        refine jl_sld (pc2 := 874) hC hX hbl hV.1 dL_law_873 rfl ?_
        have hV := hV.2
        refine jj_aload_n (pc2 := 875) hC dL_law_874 rfl 0 rfl rfl ?_
        refine jj_iload_n (pc2 := 876) hC dL_law_875 rfl 3 rfl rfl ?_
        refine jj_iconst (pc2 := 877) hC 2 dL_law_876 (by decide) rfl ?_
        refine jj_iadd (pc2 := 878) hC dL_law_877 rfl ?_
        refine jl_sld (pc2 := 879) hC hX hbl hV.1 dL_law_878 rfl ?_
        have hV := hV.2
        refine jl_CIp (pc2 := 882) (gc := g.1) (gr := g.2) (rest := []) hC (kc_X10_holds l D cs [] (wr_W cs ad2 g.2) ad (xs (x3 + 1).toNatClampNeg) (xs (x3 + 2).toNatClampNeg) g.1 _ hV) (cwV 2 hC.1.2.2.2.2 gL_law_X10_holds rfl rfl rfl (by decide +kernel) ⟨by decide, by decide⟩) rfl (Nat.le_of_ble_eq_true rfl) _ rfl dL_law_879 ⟨show uc ≤ 600000 by omega, show us ≤ 7302250 by omega⟩ rfl (fun r106 hV => ?_)
        refine jj_aload_n (pc2 := 883) hC dL_law_882 rfl 2 rfl rfl ?_
        refine jj_aload_n (pc2 := 884) hC dL_law_883 rfl 0 rfl rfl ?_
        refine jj_iload_n (pc2 := 885) hC dL_law_884 rfl 3 rfl rfl ?_
        refine jj_iconst (pc2 := 886) hC 1 dL_law_885 (by decide) rfl ?_
        refine jj_iadd (pc2 := 887) hC dL_law_886 rfl ?_
        refine jl_sld (pc2 := 888) hC hX hbl hV.1 dL_law_887 rfl ?_
        have hV := hV.2
        refine jj_aload_n (pc2 := 889) hC dL_law_888 rfl 0 rfl rfl ?_
        refine jj_iload_n (pc2 := 890) hC dL_law_889 rfl 3 rfl rfl ?_
        refine jj_iconst (pc2 := 891) hC 2 dL_law_890 (by decide) rfl ?_
        refine jj_iadd (pc2 := 892) hC dL_law_891 rfl ?_
        refine jl_sld (pc2 := 893) hC hX hbl hV.1 dL_law_892 rfl ?_
        have hV := hV.2
        refine jl_RIp (pc2 := 896) (gc := g.1) (gr := g.2) (rest := [.int r106]) hC (cr_holds l D cs (wc_W cs ad g.1 ++ wc_X cs g.1.1) [] ad2 (xs (x3 + 1).toNatClampNeg) (xs (x3 + 2).toNatClampNeg) g.2 _ hV) (cwV 2 hC.1.2.2.2.2 gL_law_X11_holds rfl rfl rfl (by decide +kernel) ⟨by decide, by decide⟩) rfl (Nat.le_of_ble_eq_true rfl) _ rfl dL_law_893 ⟨show uc ≤ 600000 by omega, show us ≤ 7302250 by omega⟩ rfl (fun r107 hV => ?_)
        refine jj_icmp_eq (pc2 := 899) hC 1121 dL_law_896 (by decide) rfl (fun h108 => ?_) (fun h108 => ?_)
        · have hV := hV.1 h108
          refine jj_iinc (pc2 := 1124) hC (x3 + 5) [(3, .int (x3 + 5)), (0, .ref b), (1, .ref (ad 0)), (2, .ref (ad2 0))] dL_law_1121 3 rfl rfl (by decide) rfl rfl ?_
          refine jj_goto hC 18 dL_law_1124 (by decide) ?_
          exact jj_sub (lv2 := [(0, .ref b), (1, .ref (ad 0)), (2, .ref (ad2 0)), (3, .int (x3 + 5))]) [1, 2, 3, 0] rfl (ih (x3 + 5) uc us g hV)
        · have hV := hV.2 h108
          refine jj_iconst (pc2 := 900) hC 0 dL_law_899 (by decide) rfl ?_
          exact hV.elim
      · have hV := hV.2.2.2.2.2.2.2.2.2.2.2.2.2.2.2.2.2.2.2.2.2.2.2.1 hs
        refine jj_tabIn (off := 869) hC 901 dL_law_32 (fun q => h2 (Or.inl q)) (fun q => h2 (Or.inr q)) (by rw [hs]; decide) (by decide) ?_
        refine jj_aload_n (pc2 := 902) hC dL_law_901 rfl 1 rfl rfl ?_
        refine jj_aload_n (pc2 := 903) hC dL_law_902 rfl 0 rfl rfl ?_
        refine jj_iload_n (pc2 := 904) hC dL_law_903 rfl 3 rfl rfl ?_
        refine jj_iconst (pc2 := 905) hC 1 dL_law_904 (by decide) rfl ?_
        refine jj_iadd (pc2 := 906) hC dL_law_905 rfl ?_
        refine jl_sld (pc2 := 907) hC hX hbl hV.1 dL_law_906 rfl ?_
        have hV := hV.2
        refine jl_CI (pc2 := 910) (gc := g.1) (gr := g.2) (rest := []) hC (kc_X10_broken l D cs [] (wr_W cs ad2 g.2) ad (xs (x3 + 1).toNatClampNeg) g.1 _ hV) (cwV 1 hC.1.2.2.2.2 gL_law_X10_broken rfl rfl rfl (by decide +kernel) ⟨by decide, by decide⟩) rfl (Nat.le_of_ble_eq_true rfl) _ rfl dL_law_907 ⟨show uc ≤ 600000 by omega, show us ≤ 7302250 by omega⟩ rfl (fun r109 g110 hV => ?_)
        refine jj_aload_n (pc2 := 911) hC dL_law_910 rfl 2 rfl rfl ?_
        refine jj_aload_n (pc2 := 912) hC dL_law_911 rfl 0 rfl rfl ?_
        refine jj_iload_n (pc2 := 913) hC dL_law_912 rfl 3 rfl rfl ?_
        refine jj_iconst (pc2 := 914) hC 1 dL_law_913 (by decide) rfl ?_
        refine jj_iadd (pc2 := 915) hC dL_law_914 rfl ?_
        refine jl_sld (pc2 := 916) hC hX hbl hV.1 dL_law_915 rfl ?_
        have hV := hV.2
        refine jl_RI (pc2 := 919) (gc := g110) (gr := g.2) (rest := [.int r109]) hC (cr_broken l D cs (wc_W cs ad g110 ++ wc_X cs g110.1) [] ad2 (xs (x3 + 1).toNatClampNeg) g.2 _ hV) (cwV 1 hC.1.2.2.2.2 gL_law_X11_broken rfl rfl rfl (by decide +kernel) ⟨by decide, by decide⟩) rfl (Nat.le_of_ble_eq_true rfl) _ rfl dL_law_916 ⟨show uc ≤ 600000 by omega, show us ≤ 7302250 by omega⟩ rfl (fun r111 g112 hV => ?_)
        refine jj_icmp_eq (pc2 := 922) hC 1121 dL_law_919 (by decide) rfl (fun h113 => ?_) (fun h113 => ?_)
        · have hV := hV.1 h113
          refine jj_iinc (pc2 := 1124) hC (x3 + 5) [(3, .int (x3 + 5)), (0, .ref b), (1, .ref (ad 0)), (2, .ref (ad2 0))] dL_law_1121 3 rfl rfl (by decide) rfl rfl ?_
          refine jj_goto hC 18 dL_law_1124 (by decide) ?_
          exact jj_sub (lv2 := [(0, .ref b), (1, .ref (ad 0)), (2, .ref (ad2 0)), (3, .int (x3 + 5))]) [1, 2, 3, 0] rfl (ih (x3 + 5) uc us (g110, g112) hV)
        · have hV := hV.2 h113
          refine jj_iconst (pc2 := 923) hC 0 dL_law_922 (by decide) rfl ?_
          exact hV.elim
      · have hV := hV.2.2.2.2.2.2.2.2.2.2.2.2.2.2.2.2.2.2.2.2.2.2.2.2.1 hs
        refine jj_tabIn (off := 892) hC 924 dL_law_32 (fun q => h2 (Or.inl q)) (fun q => h2 (Or.inr q)) (by rw [hs]; decide) (by decide) ?_
        refine jj_aload_n (pc2 := 925) hC dL_law_924 rfl 1 rfl rfl ?_
        refine jj_aload_n (pc2 := 926) hC dL_law_925 rfl 0 rfl rfl ?_
        refine jj_iload_n (pc2 := 927) hC dL_law_926 rfl 3 rfl rfl ?_
        refine jj_iconst (pc2 := 928) hC 1 dL_law_927 (by decide) rfl ?_
        refine jj_iadd (pc2 := 929) hC dL_law_928 rfl ?_
        refine jl_sld (pc2 := 930) hC hX hbl hV.1 dL_law_929 rfl ?_
        have hV := hV.2
        refine jj_aload_n (pc2 := 931) hC dL_law_930 rfl 0 rfl rfl ?_
        refine jj_iload_n (pc2 := 932) hC dL_law_931 rfl 3 rfl rfl ?_
        refine jj_iconst (pc2 := 933) hC 2 dL_law_932 (by decide) rfl ?_
        refine jj_iadd (pc2 := 934) hC dL_law_933 rfl ?_
        refine jl_sld (pc2 := 935) hC hX hbl hV.1 dL_law_934 rfl ?_
        have hV := hV.2
        refine jl_CI (pc2 := 938) (gc := g.1) (gr := g.2) (rest := []) hC (kc_X10_worst l D cs [] (wr_W cs ad2 g.2) ad (xs (x3 + 1).toNatClampNeg) (xs (x3 + 2).toNatClampNeg) g.1 _ hV) (cwV 2 hC.1.2.2.2.2 gL_law_X10_worst rfl rfl rfl (by decide +kernel) ⟨by decide, by decide⟩) rfl (Nat.le_of_ble_eq_true rfl) _ rfl dL_law_935 ⟨show uc ≤ 600000 by omega, show us ≤ 7302250 by omega⟩ rfl (fun r114 g115 hV => ?_)
        refine jj_aload_n (pc2 := 939) hC dL_law_938 rfl 2 rfl rfl ?_
        refine jj_aload_n (pc2 := 940) hC dL_law_939 rfl 0 rfl rfl ?_
        refine jj_iload_n (pc2 := 941) hC dL_law_940 rfl 3 rfl rfl ?_
        refine jj_iconst (pc2 := 942) hC 1 dL_law_941 (by decide) rfl ?_
        refine jj_iadd (pc2 := 943) hC dL_law_942 rfl ?_
        refine jl_sld (pc2 := 944) hC hX hbl hV.1 dL_law_943 rfl ?_
        have hV := hV.2
        refine jj_aload_n (pc2 := 945) hC dL_law_944 rfl 0 rfl rfl ?_
        refine jj_iload_n (pc2 := 946) hC dL_law_945 rfl 3 rfl rfl ?_
        refine jj_iconst (pc2 := 947) hC 2 dL_law_946 (by decide) rfl ?_
        refine jj_iadd (pc2 := 948) hC dL_law_947 rfl ?_
        refine jl_sld (pc2 := 949) hC hX hbl hV.1 dL_law_948 rfl ?_
        have hV := hV.2
        refine jl_RI (pc2 := 952) (gc := g115) (gr := g.2) (rest := [.int r114]) hC (cr_worst l D cs (wc_W cs ad g115 ++ wc_X cs g115.1) [] ad2 (xs (x3 + 1).toNatClampNeg) (xs (x3 + 2).toNatClampNeg) g.2 _ hV) (cwV 2 hC.1.2.2.2.2 gL_law_X11_worst rfl rfl rfl (by decide +kernel) ⟨by decide, by decide⟩) rfl (Nat.le_of_ble_eq_true rfl) _ rfl dL_law_949 ⟨show uc ≤ 600000 by omega, show us ≤ 7302250 by omega⟩ rfl (fun r116 g117 hV => ?_)
        refine jj_icmp_eq (pc2 := 955) hC 1121 dL_law_952 (by decide) rfl (fun h118 => ?_) (fun h118 => ?_)
        · have hV := hV.1 h118
          refine jj_iinc (pc2 := 1124) hC (x3 + 5) [(3, .int (x3 + 5)), (0, .ref b), (1, .ref (ad 0)), (2, .ref (ad2 0))] dL_law_1121 3 rfl rfl (by decide) rfl rfl ?_
          refine jj_goto hC 18 dL_law_1124 (by decide) ?_
          exact jj_sub (lv2 := [(0, .ref b), (1, .ref (ad 0)), (2, .ref (ad2 0)), (3, .int (x3 + 5))]) [1, 2, 3, 0] rfl (ih (x3 + 5) uc us (g115, g117) hV)
        · have hV := hV.2 h118
          refine jj_iconst (pc2 := 956) hC 0 dL_law_955 (by decide) rfl ?_
          exact hV.elim
      · have hV := hV.2.2.2.2.2.2.2.2.2.2.2.2.2.2.2.2.2.2.2.2.2.2.2.2.2.1 hs
        refine jj_tabIn (off := 925) hC 957 dL_law_32 (fun q => h2 (Or.inl q)) (fun q => h2 (Or.inr q)) (by rw [hs]; decide) (by decide) ?_
        refine jj_aload_n (pc2 := 958) hC dL_law_957 rfl 1 rfl rfl ?_
        refine jl_CI (pc2 := 961) (gc := g.1) (gr := g.2) (rest := []) hC (kc_X10_orders l D cs [] (wr_W cs ad2 g.2) ad  g.1 _ hV) (cwV 0 hC.1.2.2.2.2 gL_law_X10_orders rfl rfl rfl (by decide +kernel) ⟨by decide, by decide⟩) rfl (Nat.le_of_ble_eq_true rfl) _ rfl dL_law_958 ⟨show uc ≤ 600000 by omega, show us ≤ 7302250 by omega⟩ rfl (fun r119 g120 hV => ?_)
        refine jj_aload_n (pc2 := 962) hC dL_law_961 rfl 2 rfl rfl ?_
        refine jl_RI (pc2 := 965) (gc := g120) (gr := g.2) (rest := [.int r119]) hC (cr_orders l D cs (wc_W cs ad g120 ++ wc_X cs g120.1) [] ad2  g.2 _ hV) (cwV 0 hC.1.2.2.2.2 gL_law_X11_orders rfl rfl rfl (by decide +kernel) ⟨by decide, by decide⟩) rfl (Nat.le_of_ble_eq_true rfl) _ rfl dL_law_962 ⟨show uc ≤ 600000 by omega, show us ≤ 7302250 by omega⟩ rfl (fun r121 g122 hV => ?_)
        refine jj_icmp_eq (pc2 := 968) hC 1121 dL_law_965 (by decide) rfl (fun h123 => ?_) (fun h123 => ?_)
        · have hV := hV.1 h123
          refine jj_iinc (pc2 := 1124) hC (x3 + 5) [(3, .int (x3 + 5)), (0, .ref b), (1, .ref (ad 0)), (2, .ref (ad2 0))] dL_law_1121 3 rfl rfl (by decide) rfl rfl ?_
          refine jj_goto hC 18 dL_law_1124 (by decide) ?_
          exact jj_sub (lv2 := [(0, .ref b), (1, .ref (ad 0)), (2, .ref (ad2 0)), (3, .int (x3 + 5))]) [1, 2, 3, 0] rfl (ih (x3 + 5) uc us (g120, g122) hV)
        · have hV := hV.2 h123
          refine jj_iconst (pc2 := 969) hC 0 dL_law_968 (by decide) rfl ?_
          exact hV.elim
      · have hV := hV.2.2.2.2.2.2.2.2.2.2.2.2.2.2.2.2.2.2.2.2.2.2.2.2.2.2.1 hs
        refine jj_tabIn (off := 938) hC 970 dL_law_32 (fun q => h2 (Or.inl q)) (fun q => h2 (Or.inr q)) (by rw [hs]; decide) (by decide) ?_
        refine jj_aload_n (pc2 := 971) hC dL_law_970 rfl 1 rfl rfl ?_
        refine jj_aload_n (pc2 := 972) hC dL_law_971 rfl 0 rfl rfl ?_
        refine jj_iload_n (pc2 := 973) hC dL_law_972 rfl 3 rfl rfl ?_
        refine jj_iconst (pc2 := 974) hC 1 dL_law_973 (by decide) rfl ?_
        refine jj_iadd (pc2 := 975) hC dL_law_974 rfl ?_
        refine jl_sld (pc2 := 976) hC hX hbl hV.1 dL_law_975 rfl ?_
        have hV := hV.2
        refine jj_aload_n (pc2 := 977) hC dL_law_976 rfl 0 rfl rfl ?_
        refine jj_iload_n (pc2 := 978) hC dL_law_977 rfl 3 rfl rfl ?_
        refine jj_iconst (pc2 := 979) hC 2 dL_law_978 (by decide) rfl ?_
        refine jj_iadd (pc2 := 980) hC dL_law_979 rfl ?_
        refine jl_sld (pc2 := 981) hC hX hbl hV.1 dL_law_980 rfl ?_
        have hV := hV.2
        obtain ⟨mc126, ms127, hmc126, hms127, hV⟩ := hV
        refine jl_CIa (pc2 := 984) (gc := g.1) (gr := g.2) (rest := []) hC (kc_X10_beside l D cs [] (wr_W cs ad2 g.2) ad mc126 ms127 (xs (x3 + 1).toNatClampNeg) (xs (x3 + 2).toNatClampNeg) g.1 _ hV) (cwV 2 hC.1.2.2.2.2 gL_law_X10_beside rfl rfl rfl (by decide +kernel) ⟨by show 5 + 1 ≤ 2048; omega, by show 8 + (8 + 11) + 136 ≤ 84000; omega⟩) rfl (Nat.le_of_ble_eq_true rfl) _ rfl dL_law_981 ⟨hmc126, hms127⟩ rfl (fun r124 g125 hV => ?_)
        refine jj_aload_n (pc2 := 985) hC dL_law_984 rfl 2 rfl rfl ?_
        refine jj_aload_n (pc2 := 986) hC dL_law_985 rfl 0 rfl rfl ?_
        refine jj_iload_n (pc2 := 987) hC dL_law_986 rfl 3 rfl rfl ?_
        refine jj_iconst (pc2 := 988) hC 1 dL_law_987 (by decide) rfl ?_
        refine jj_iadd (pc2 := 989) hC dL_law_988 rfl ?_
        refine jl_sld (pc2 := 990) hC hX hbl hV.1 dL_law_989 rfl ?_
        have hV := hV.2
        refine jj_aload_n (pc2 := 991) hC dL_law_990 rfl 0 rfl rfl ?_
        refine jj_iload_n (pc2 := 992) hC dL_law_991 rfl 3 rfl rfl ?_
        refine jj_iconst (pc2 := 993) hC 2 dL_law_992 (by decide) rfl ?_
        refine jj_iadd (pc2 := 994) hC dL_law_993 rfl ?_
        refine jl_sld (pc2 := 995) hC hX hbl hV.1 dL_law_994 rfl ?_
        have hV := hV.2
        refine jl_RI (pc2 := 998) (gc := g125) (gr := g.2) (rest := [.int r124]) hC (cr_beside l D cs (wc_W cs ad g125 ++ wc_X cs g125.1) [] ad2 (xs (x3 + 1).toNatClampNeg) (xs (x3 + 2).toNatClampNeg) g.2 _ hV) (cwV 2 hC.1.2.2.2.2 gL_law_X11_beside rfl rfl rfl (by decide +kernel) ⟨by decide, by decide⟩) rfl (Nat.le_of_ble_eq_true rfl) _ rfl dL_law_995 ⟨show uc + mc126 ≤ 600000 by omega, show us + ms127 ≤ 7302250 by omega⟩ rfl (fun r128 g129 hV => ?_)
        refine jj_icmp_eq (pc2 := 1001) hC 1121 dL_law_998 (by decide) rfl (fun h130 => ?_) (fun h130 => ?_)
        · have hV := hV.1 h130
          refine jj_iinc (pc2 := 1124) hC (x3 + 5) [(3, .int (x3 + 5)), (0, .ref b), (1, .ref (ad 0)), (2, .ref (ad2 0))] dL_law_1121 3 rfl rfl (by decide) rfl rfl ?_
          refine jj_goto hC 18 dL_law_1124 (by decide) ?_
          exact jj_sub (lv2 := [(0, .ref b), (1, .ref (ad 0)), (2, .ref (ad2 0)), (3, .int (x3 + 5))]) [1, 2, 3, 0] rfl (ih (x3 + 5) (uc + mc126) (us + ms127) (g125, g129) hV)
        · have hV := hV.2 h130
          refine jj_iconst (pc2 := 1002) hC 0 dL_law_1001 (by decide) rfl ?_
          exact hV.elim
      · have hV := hV.2.2.2.2.2.2.2.2.2.2.2.2.2.2.2.2.2.2.2.2.2.2.2.2.2.2.2.1 hs
        refine jj_tabIn (off := 971) hC 1003 dL_law_32 (fun q => h2 (Or.inl q)) (fun q => h2 (Or.inr q)) (by rw [hs]; decide) (by decide) ?_
        refine jj_aload_n (pc2 := 1004) hC dL_law_1003 rfl 1 rfl rfl ?_
        refine jj_aload_n (pc2 := 1005) hC dL_law_1004 rfl 0 rfl rfl ?_
        refine jj_iload_n (pc2 := 1006) hC dL_law_1005 rfl 3 rfl rfl ?_
        refine jj_iconst (pc2 := 1007) hC 1 dL_law_1006 (by decide) rfl ?_
        refine jj_iadd (pc2 := 1008) hC dL_law_1007 rfl ?_
        refine jl_sld (pc2 := 1009) hC hX hbl hV.1 dL_law_1008 rfl ?_
        have hV := hV.2
        refine jl_CIp (pc2 := 1012) (gc := g.1) (gr := g.2) (rest := []) hC (kc_X10_unlike l D cs [] (wr_W cs ad2 g.2) ad (xs (x3 + 1).toNatClampNeg) g.1 _ hV) (cwV 1 hC.1.2.2.2.2 gL_law_X10_unlike rfl rfl rfl (by decide +kernel) ⟨by decide, by decide⟩) rfl (Nat.le_of_ble_eq_true rfl) _ rfl dL_law_1009 ⟨show uc ≤ 600000 by omega, show us ≤ 7302250 by omega⟩ rfl (fun r131 hV => ?_)
        refine jj_aload_n (pc2 := 1013) hC dL_law_1012 rfl 2 rfl rfl ?_
        refine jj_aload_n (pc2 := 1014) hC dL_law_1013 rfl 0 rfl rfl ?_
        refine jj_iload_n (pc2 := 1015) hC dL_law_1014 rfl 3 rfl rfl ?_
        refine jj_iconst (pc2 := 1016) hC 1 dL_law_1015 (by decide) rfl ?_
        refine jj_iadd (pc2 := 1017) hC dL_law_1016 rfl ?_
        refine jl_sld (pc2 := 1018) hC hX hbl hV.1 dL_law_1017 rfl ?_
        have hV := hV.2
        refine jl_RIp (pc2 := 1021) (gc := g.1) (gr := g.2) (rest := [.int r131]) hC (cr_unlike l D cs (wc_W cs ad g.1 ++ wc_X cs g.1.1) [] ad2 (xs (x3 + 1).toNatClampNeg) g.2 _ hV) (cwV 1 hC.1.2.2.2.2 gL_law_X11_unlike rfl rfl rfl (by decide +kernel) ⟨by decide, by decide⟩) rfl (Nat.le_of_ble_eq_true rfl) _ rfl dL_law_1018 ⟨show uc ≤ 600000 by omega, show us ≤ 7302250 by omega⟩ rfl (fun r132 hV => ?_)
        refine jj_icmp_eq (pc2 := 1024) hC 1121 dL_law_1021 (by decide) rfl (fun h133 => ?_) (fun h133 => ?_)
        · have hV := hV.1 h133
          refine jj_iinc (pc2 := 1124) hC (x3 + 5) [(3, .int (x3 + 5)), (0, .ref b), (1, .ref (ad 0)), (2, .ref (ad2 0))] dL_law_1121 3 rfl rfl (by decide) rfl rfl ?_
          refine jj_goto hC 18 dL_law_1124 (by decide) ?_
          exact jj_sub (lv2 := [(0, .ref b), (1, .ref (ad 0)), (2, .ref (ad2 0)), (3, .int (x3 + 5))]) [1, 2, 3, 0] rfl (ih (x3 + 5) uc us g hV)
        · have hV := hV.2 h133
          refine jj_iconst (pc2 := 1025) hC 0 dL_law_1024 (by decide) rfl ?_
          exact hV.elim
      · have hV := hV.2.2.2.2.2.2.2.2.2.2.2.2.2.2.2.2.2.2.2.2.2.2.2.2.2.2.2.2.1 hs
        refine jj_tabIn (off := 994) hC 1026 dL_law_32 (fun q => h2 (Or.inl q)) (fun q => h2 (Or.inr q)) (by rw [hs]; decide) (by decide) ?_
        refine jj_aload_n (pc2 := 1027) hC dL_law_1026 rfl 1 rfl rfl ?_
        refine jl_CIp (pc2 := 1030) (gc := g.1) (gr := g.2) (rest := []) hC (kc_X10_differ l D cs [] (wr_W cs ad2 g.2) ad  g.1 _ hV) (cwV 0 hC.1.2.2.2.2 gL_law_X10_differ rfl rfl rfl (by decide +kernel) ⟨by decide, by decide⟩) rfl (Nat.le_of_ble_eq_true rfl) _ rfl dL_law_1027 ⟨show uc ≤ 600000 by omega, show us ≤ 7302250 by omega⟩ rfl (fun r134 hV => ?_)
        refine jj_aload_n (pc2 := 1031) hC dL_law_1030 rfl 2 rfl rfl ?_
        refine jl_RIp (pc2 := 1034) (gc := g.1) (gr := g.2) (rest := [.int r134]) hC (cr_differ l D cs (wc_W cs ad g.1 ++ wc_X cs g.1.1) [] ad2  g.2 _ hV) (cwV 0 hC.1.2.2.2.2 gL_law_X11_differ rfl rfl rfl (by decide +kernel) ⟨by decide, by decide⟩) rfl (Nat.le_of_ble_eq_true rfl) _ rfl dL_law_1031 ⟨show uc ≤ 600000 by omega, show us ≤ 7302250 by omega⟩ rfl (fun r135 hV => ?_)
        refine jj_icmp_eq (pc2 := 1037) hC 1121 dL_law_1034 (by decide) rfl (fun h136 => ?_) (fun h136 => ?_)
        · have hV := hV.1 h136
          refine jj_iinc (pc2 := 1124) hC (x3 + 5) [(3, .int (x3 + 5)), (0, .ref b), (1, .ref (ad 0)), (2, .ref (ad2 0))] dL_law_1121 3 rfl rfl (by decide) rfl rfl ?_
          refine jj_goto hC 18 dL_law_1124 (by decide) ?_
          exact jj_sub (lv2 := [(0, .ref b), (1, .ref (ad 0)), (2, .ref (ad2 0)), (3, .int (x3 + 5))]) [1, 2, 3, 0] rfl (ih (x3 + 5) uc us g hV)
        · have hV := hV.2 h136
          refine jj_iconst (pc2 := 1038) hC 0 dL_law_1037 (by decide) rfl ?_
          exact hV.elim
      · have hV := hV.2.2.2.2.2.2.2.2.2.2.2.2.2.2.2.2.2.2.2.2.2.2.2.2.2.2.2.2.2.1 hs
        refine jj_tabIn (off := 1007) hC 1039 dL_law_32 (fun q => h2 (Or.inl q)) (fun q => h2 (Or.inr q)) (by rw [hs]; decide) (by decide) ?_
        refine jj_aload_n (pc2 := 1040) hC dL_law_1039 rfl 1 rfl rfl ?_
        refine jl_CI (pc2 := 1043) (gc := g.1) (gr := g.2) (rest := []) hC (kc_X10_sync l D cs [] (wr_W cs ad2 g.2) ad  g.1 _ hV) (cwV 0 hC.1.2.2.2.2 gL_law_X10_sync rfl rfl rfl (by decide +kernel) ⟨by decide, by decide⟩) rfl (Nat.le_of_ble_eq_true rfl) _ rfl dL_law_1040 ⟨show uc ≤ 600000 by omega, show us ≤ 7302250 by omega⟩ rfl (fun r137 g138 hV => ?_)
        refine jj_aload_n (pc2 := 1044) hC dL_law_1043 rfl 2 rfl rfl ?_
        refine jl_RI (pc2 := 1047) (gc := g138) (gr := g.2) (rest := [.int r137]) hC (cr_sync l D cs (wc_W cs ad g138 ++ wc_X cs g138.1) [] ad2  g.2 _ hV) (cwV 0 hC.1.2.2.2.2 gL_law_X11_sync rfl rfl rfl (by decide +kernel) ⟨by decide, by decide⟩) rfl (Nat.le_of_ble_eq_true rfl) _ rfl dL_law_1044 ⟨show uc ≤ 600000 by omega, show us ≤ 7302250 by omega⟩ rfl (fun r139 g140 hV => ?_)
        refine jj_icmp_eq (pc2 := 1050) hC 1121 dL_law_1047 (by decide) rfl (fun h141 => ?_) (fun h141 => ?_)
        · have hV := hV.1 h141
          refine jj_iinc (pc2 := 1124) hC (x3 + 5) [(3, .int (x3 + 5)), (0, .ref b), (1, .ref (ad 0)), (2, .ref (ad2 0))] dL_law_1121 3 rfl rfl (by decide) rfl rfl ?_
          refine jj_goto hC 18 dL_law_1124 (by decide) ?_
          exact jj_sub (lv2 := [(0, .ref b), (1, .ref (ad 0)), (2, .ref (ad2 0)), (3, .int (x3 + 5))]) [1, 2, 3, 0] rfl (ih (x3 + 5) uc us (g138, g140) hV)
        · have hV := hV.2 h141
          refine jj_iconst (pc2 := 1051) hC 0 dL_law_1050 (by decide) rfl ?_
          exact hV.elim
      · have hV := hV.2.2.2.2.2.2.2.2.2.2.2.2.2.2.2.2.2.2.2.2.2.2.2.2.2.2.2.2.2.2.1 hs
        refine jj_tabIn (off := 1020) hC 1052 dL_law_32 (fun q => h2 (Or.inl q)) (fun q => h2 (Or.inr q)) (by rw [hs]; decide) (by decide) ?_
        refine jj_aload_n (pc2 := 1053) hC dL_law_1052 rfl 1 rfl rfl ?_
        refine jj_aload_n (pc2 := 1054) hC dL_law_1053 rfl 0 rfl rfl ?_
        refine jj_iload_n (pc2 := 1055) hC dL_law_1054 rfl 3 rfl rfl ?_
        refine jj_iconst (pc2 := 1056) hC 1 dL_law_1055 (by decide) rfl ?_
        refine jj_iadd (pc2 := 1057) hC dL_law_1056 rfl ?_
        refine jl_sld (pc2 := 1058) hC hX hbl hV.1 dL_law_1057 rfl ?_
        have hV := hV.2
        obtain ⟨mc144, ms145, hmc144, hms145, hV⟩ := hV
        refine jl_CIa (pc2 := 1061) (gc := g.1) (gr := g.2) (rest := []) hC (kc_X10_image l D cs [] (wr_W cs ad2 g.2) ad mc144 ms145 (xs (x3 + 1).toNatClampNeg) g.1 _ hV) (cwV 1 hC.1.2.2.2.2 gL_law_X10_image rfl rfl rfl (by decide +kernel) ⟨by show 6 + 1 ≤ 2048; omega, by show 8 + (2 + 11) + 200 ≤ 84000; omega⟩) rfl (Nat.le_of_ble_eq_true rfl) _ rfl dL_law_1058 ⟨hmc144, hms145⟩ rfl (fun r142 g143 hV => ?_)
        refine jj_aload_n (pc2 := 1062) hC dL_law_1061 rfl 2 rfl rfl ?_
        refine jj_aload_n (pc2 := 1063) hC dL_law_1062 rfl 0 rfl rfl ?_
        refine jj_iload_n (pc2 := 1064) hC dL_law_1063 rfl 3 rfl rfl ?_
        refine jj_iconst (pc2 := 1065) hC 1 dL_law_1064 (by decide) rfl ?_
        refine jj_iadd (pc2 := 1066) hC dL_law_1065 rfl ?_
        refine jl_sld (pc2 := 1067) hC hX hbl hV.1 dL_law_1066 rfl ?_
        have hV := hV.2
        refine jl_RI (pc2 := 1070) (gc := g143) (gr := g.2) (rest := [.int r142]) hC (cr_image l D cs (wc_W cs ad g143 ++ wc_X cs g143.1) [] ad2 (xs (x3 + 1).toNatClampNeg) g.2 _ hV) (cwV 1 hC.1.2.2.2.2 gL_law_X11_image rfl rfl rfl (by decide +kernel) ⟨by decide, by decide⟩) rfl (Nat.le_of_ble_eq_true rfl) _ rfl dL_law_1067 ⟨show uc + mc144 ≤ 600000 by omega, show us + ms145 ≤ 7302250 by omega⟩ rfl (fun r146 g147 hV => ?_)
        refine jj_icmp_eq (pc2 := 1073) hC 1121 dL_law_1070 (by decide) rfl (fun h148 => ?_) (fun h148 => ?_)
        · have hV := hV.1 h148
          refine jj_iinc (pc2 := 1124) hC (x3 + 5) [(3, .int (x3 + 5)), (0, .ref b), (1, .ref (ad 0)), (2, .ref (ad2 0))] dL_law_1121 3 rfl rfl (by decide) rfl rfl ?_
          refine jj_goto hC 18 dL_law_1124 (by decide) ?_
          exact jj_sub (lv2 := [(0, .ref b), (1, .ref (ad 0)), (2, .ref (ad2 0)), (3, .int (x3 + 5))]) [1, 2, 3, 0] rfl (ih (x3 + 5) (uc + mc144) (us + ms145) (g143, g147) hV)
        · have hV := hV.2 h148
          refine jj_iconst (pc2 := 1074) hC 0 dL_law_1073 (by decide) rfl ?_
          exact hV.elim
      · have hV := hV.2.2.2.2.2.2.2.2.2.2.2.2.2.2.2.2.2.2.2.2.2.2.2.2.2.2.2.2.2.2.2.1 hs
        refine jj_tabIn (off := 1043) hC 1075 dL_law_32 (fun q => h2 (Or.inl q)) (fun q => h2 (Or.inr q)) (by rw [hs]; decide) (by decide) ?_
        refine jj_aload_n (pc2 := 1076) hC dL_law_1075 rfl 1 rfl rfl ?_
        refine jj_aload_n (pc2 := 1077) hC dL_law_1076 rfl 0 rfl rfl ?_
        refine jj_iload_n (pc2 := 1078) hC dL_law_1077 rfl 3 rfl rfl ?_
        refine jj_iconst (pc2 := 1079) hC 1 dL_law_1078 (by decide) rfl ?_
        refine jj_iadd (pc2 := 1080) hC dL_law_1079 rfl ?_
        refine jl_sld (pc2 := 1081) hC hX hbl hV.1 dL_law_1080 rfl ?_
        have hV := hV.2
        obtain ⟨mc151, ms152, hmc151, hms152, hV⟩ := hV
        refine jl_CIa (pc2 := 1084) (gc := g.1) (gr := g.2) (rest := []) hC (kc_X10_restore l D cs [] (wr_W cs ad2 g.2) ad mc151 ms152 (xs (x3 + 1).toNatClampNeg) g.1 _ hV) (cwV 1 hC.1.2.2.2.2 gL_law_X10_restore rfl rfl rfl (by decide +kernel) ⟨by show 6 + 1 ≤ 2048; omega, by show 8 + (2 + 11) + 200 ≤ 84000; omega⟩) rfl (Nat.le_of_ble_eq_true rfl) _ rfl dL_law_1081 ⟨hmc151, hms152⟩ rfl (fun r149 g150 hV => ?_)
        refine jj_aload_n (pc2 := 1085) hC dL_law_1084 rfl 2 rfl rfl ?_
        refine jj_aload_n (pc2 := 1086) hC dL_law_1085 rfl 0 rfl rfl ?_
        refine jj_iload_n (pc2 := 1087) hC dL_law_1086 rfl 3 rfl rfl ?_
        refine jj_iconst (pc2 := 1088) hC 1 dL_law_1087 (by decide) rfl ?_
        refine jj_iadd (pc2 := 1089) hC dL_law_1088 rfl ?_
        refine jl_sld (pc2 := 1090) hC hX hbl hV.1 dL_law_1089 rfl ?_
        have hV := hV.2
        refine jl_RI (pc2 := 1093) (gc := g150) (gr := g.2) (rest := [.int r149]) hC (cr_restore l D cs (wc_W cs ad g150 ++ wc_X cs g150.1) [] ad2 (xs (x3 + 1).toNatClampNeg) g.2 _ hV) (cwV 1 hC.1.2.2.2.2 gL_law_X11_restore rfl rfl rfl (by decide +kernel) ⟨by decide, by decide⟩) rfl (Nat.le_of_ble_eq_true rfl) _ rfl dL_law_1090 ⟨show uc + mc151 ≤ 600000 by omega, show us + ms152 ≤ 7302250 by omega⟩ rfl (fun r153 g154 hV => ?_)
        refine jj_icmp_eq (pc2 := 1096) hC 1121 dL_law_1093 (by decide) rfl (fun h155 => ?_) (fun h155 => ?_)
        · have hV := hV.1 h155
          refine jj_iinc (pc2 := 1124) hC (x3 + 5) [(3, .int (x3 + 5)), (0, .ref b), (1, .ref (ad 0)), (2, .ref (ad2 0))] dL_law_1121 3 rfl rfl (by decide) rfl rfl ?_
          refine jj_goto hC 18 dL_law_1124 (by decide) ?_
          exact jj_sub (lv2 := [(0, .ref b), (1, .ref (ad 0)), (2, .ref (ad2 0)), (3, .int (x3 + 5))]) [1, 2, 3, 0] rfl (ih (x3 + 5) (uc + mc151) (us + ms152) (g150, g154) hV)
        · have hV := hV.2 h155
          refine jj_iconst (pc2 := 1097) hC 0 dL_law_1096 (by decide) rfl ?_
          exact hV.elim
      · have hV := hV.2.2.2.2.2.2.2.2.2.2.2.2.2.2.2.2.2.2.2.2.2.2.2.2.2.2.2.2.2.2.2.2 hs
        refine jj_tabIn (off := 1066) hC 1098 dL_law_32 (fun q => h2 (Or.inl q)) (fun q => h2 (Or.inr q)) (by rw [hs]; decide) (by decide) ?_
        refine jj_aload_n (pc2 := 1099) hC dL_law_1098 rfl 1 rfl rfl ?_
        refine jj_aload_n (pc2 := 1100) hC dL_law_1099 rfl 0 rfl rfl ?_
        refine jj_iload_n (pc2 := 1101) hC dL_law_1100 rfl 3 rfl rfl ?_
        refine jj_iconst (pc2 := 1102) hC 1 dL_law_1101 (by decide) rfl ?_
        refine jj_iadd (pc2 := 1103) hC dL_law_1102 rfl ?_
        refine jl_sld (pc2 := 1104) hC hX hbl hV.1 dL_law_1103 rfl ?_
        have hV := hV.2
        refine jl_CIp (pc2 := 1107) (gc := g.1) (gr := g.2) (rest := []) hC (kc_X10_count l D cs [] (wr_W cs ad2 g.2) ad (xs (x3 + 1).toNatClampNeg) g.1 _ hV) (cwV 1 hC.1.2.2.2.2 gL_law_X10_count rfl rfl rfl (by decide +kernel) ⟨by decide, by decide⟩) rfl (Nat.le_of_ble_eq_true rfl) _ rfl dL_law_1104 ⟨show uc ≤ 600000 by omega, show us ≤ 7302250 by omega⟩ rfl (fun r156 hV => ?_)
        refine jj_aload_n (pc2 := 1108) hC dL_law_1107 rfl 2 rfl rfl ?_
        refine jj_aload_n (pc2 := 1109) hC dL_law_1108 rfl 0 rfl rfl ?_
        refine jj_iload_n (pc2 := 1110) hC dL_law_1109 rfl 3 rfl rfl ?_
        refine jj_iconst (pc2 := 1111) hC 1 dL_law_1110 (by decide) rfl ?_
        refine jj_iadd (pc2 := 1112) hC dL_law_1111 rfl ?_
        refine jl_sld (pc2 := 1113) hC hX hbl hV.1 dL_law_1112 rfl ?_
        have hV := hV.2
        refine jl_RIp (pc2 := 1116) (gc := g.1) (gr := g.2) (rest := [.int r156]) hC (cr_count l D cs (wc_W cs ad g.1 ++ wc_X cs g.1.1) [] ad2 (xs (x3 + 1).toNatClampNeg) g.2 _ hV) (cwV 1 hC.1.2.2.2.2 gL_law_X11_count rfl rfl rfl (by decide +kernel) ⟨by decide, by decide⟩) rfl (Nat.le_of_ble_eq_true rfl) _ rfl dL_law_1113 ⟨show uc ≤ 600000 by omega, show us ≤ 7302250 by omega⟩ rfl (fun r157 hV => ?_)
        refine jj_icmp_eq (pc2 := 1119) hC 1121 dL_law_1116 (by decide) rfl (fun h158 => ?_) (fun h158 => ?_)
        · have hV := hV.1 h158
          refine jj_iinc (pc2 := 1124) hC (x3 + 5) [(3, .int (x3 + 5)), (0, .ref b), (1, .ref (ad 0)), (2, .ref (ad2 0))] dL_law_1121 3 rfl rfl (by decide) rfl rfl ?_
          refine jj_goto hC 18 dL_law_1124 (by decide) ?_
          exact jj_sub (lv2 := [(0, .ref b), (1, .ref (ad 0)), (2, .ref (ad2 0)), (3, .int (x3 + 5))]) [1, 2, 3, 0] rfl (ih (x3 + 5) uc us g hV)
        · have hV := hV.2 h158
          refine jj_iconst (pc2 := 1120) hC 0 dL_law_1119 (by decide) rfl ?_
          exact hV.elim
def vl_law (L : Nat) (xs : Nat → Int32) (Post : Prop) (uc us : Nat) (g0 : cl_M) : Prop := ∃ n159 : Nat, vl_law_18 L xs Post n159 0 uc us g0
