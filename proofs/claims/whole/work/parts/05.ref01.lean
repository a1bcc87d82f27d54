theorem hi_X11_runOld_X11 : ∀ w ∈ u_ws RX11 TX11 63, w ∈ wsX11_runOld := fun _ h => List.mem_cons_of_mem _ (List.mem_append_right _ h)
theorem lk_X11_runOld_4 : Cond.fieldLink RX11 37 "PartedHouseModel" "work" "[I" ∈ wsX11_runOld := List.mem_of_getElem? (i := 4) rfl
theorem lk_X11_runOld_1 : Cond.fieldLink RX11 31 "PartedHouseModel" "old" "[I" ∈ wsX11_runOld := List.mem_of_getElem? (i := 1) rfl
theorem lk_X11_runOld_6 : Cond.fieldLink RX11 40 "PartedHouseModel" "callsNow" "[I" ∈ wsX11_runOld := List.mem_of_getElem? (i := 6) rfl
theorem lk_X11_runOld_5 : Cond.fieldLink RX11 62 "PartedHouseModel" "calls" "[I" ∈ wsX11_runOld := List.mem_of_getElem? (i := 5) rfl
theorem lk_X11_runOld_10 : Cond.fieldLink RX11 46 "PartedHouseModel" "writesNow" "[I" ∈ wsX11_runOld := List.mem_of_getElem? (i := 10) rfl
theorem lk_X11_runOld_9 : Cond.fieldLink RX11 68 "PartedHouseModel" "writes" "[I" ∈ wsX11_runOld := List.mem_of_getElem? (i := 9) rfl
theorem lk_X11_runOld_8 : Cond.fieldLink RX11 43 "PartedHouseModel" "readsNow" "[I" ∈ wsX11_runOld := List.mem_of_getElem? (i := 8) rfl
theorem lk_X11_runOld_7 : Cond.fieldLink RX11 65 "PartedHouseModel" "reads" "[I" ∈ wsX11_runOld := List.mem_of_getElem? (i := 7) rfl
theorem lk_X11_runOld_13 : Cond.fieldLink RX11 49 "PartedHouseModel" "written" "[I" ∈ wsX11_runOld := List.mem_of_getElem? (i := 13) rfl
theorem lk_X11_runOld_12 : Cond.fieldLink RX11 13 "PartedHouseModel" "home" "[I" ∈ wsX11_runOld := List.mem_of_getElem? (i := 12) rfl
theorem lk_X11_runOld_11 : Cond.fieldLink RX11 174 "PartedHouseModel" "writtenMany" "I" ∈ wsX11_runOld := List.mem_of_getElem? (i := 11) rfl
theorem lk_X11_runOld_16 : Cond.fieldLink RX11 177 "PartedHouseModel" "answer" "I" ∈ wsX11_runOld := List.mem_of_getElem? (i := 16) rfl
theorem lk_X11_runOld_15 : Cond.fieldLink RX11 193 "PartedHouseModel" "actsOld" "I" ∈ wsX11_runOld := List.mem_of_getElem? (i := 15) rfl
theorem lk_X11_runOld_14 : Cond.fieldLink RX11 71 "PartedHouseModel" "sets" "[I" ∈ wsX11_runOld := List.mem_of_getElem? (i := 14) rfl
theorem lk_X11_runOld_3 : Cond.constant RX11 192 (-2000000000) ∈ wsX11_runOld := List.mem_of_getElem? (i := 3) rfl
theorem lk_X11_runOld_2 : Cond.fieldLink RX11 188 "PartedHouseModel" "ended" "Z" ∈ wsX11_runOld := List.mem_of_getElem? (i := 2) rfl
abbrev rm_X11_runOld : Room := { frames := 2, cells := 0, slots := 0, locals := 54 }
def vr_runOld_26 (K51 : jm_M → Prop) (Post : Int32 → jm_M → Prop) : Nat → Int32 → jm_M → Prop
  | 0, _, _ => False
  | f + 1, x3, g => ((128 ≤ x3) → (K51 g)) ∧ ((¬ 128 ≤ x3) → ((vp_in x3 128) ∧ ((vp_in x3 128) ∧ (∀ g6 : jm_M, g6 = jm_a g 11 x3 (g 13 x3.toNatClampNeg) → (vr_runOld_26 K51 Post f (x3 + 1) g6)))))
def vr_runOld_53 (K80 : jm_M → Prop) (Post : Int32 → jm_M → Prop) : Nat → Int32 → jm_M → Prop
  | 0, _, _ => False
  | f + 1, x3, g => ((100 ≤ x3) → (K80 g)) ∧ ((¬ 100 ≤ x3) → ((vp_in x3 100) ∧ ((vp_in x3 100) ∧ ((vp_in x3 100) ∧ (∀ g9 : jm_M, g9 = jm_a g 24 x3 ((g 24 x3.toNatClampNeg) + (g 14 x3.toNatClampNeg)) → (vr_runOld_53 K80 Post f (x3 + 1) g9))))))
def vr_runOld_82 (K125 : jm_M → Prop) (Post : Int32 → jm_M → Prop) : Nat → Int32 → jm_M → Prop
  | 0, _, _ => False
  | f + 1, x3, g => ((160 ≤ x3) → (K125 g)) ∧ ((¬ 160 ≤ x3) → ((vp_in x3 160) ∧ ((vp_in x3 160) ∧ ((vp_in x3 160) ∧ (∀ g12 : jm_M, g12 = jm_a g 25 x3 ((g 25 x3.toNatClampNeg) + (g 15 x3.toNatClampNeg)) → ((vp_in x3 160) ∧ ((vp_in x3 160) ∧ ((vp_in x3 160) ∧ (∀ g13 : jm_M, g13 = jm_a g12 26 x3 ((g12 26 x3.toNatClampNeg) + (g12 16 x3.toNatClampNeg)) → (vr_runOld_82 K125 Post f (x3 + 1) g13))))))))))
def vr_runOld_130 (g : jm_M) (K165 : Int32 → Prop) (Post : Int32 → jm_M → Prop) : Nat → Int32 → Int32 → Prop
  | 0, _, _ => False
  | f + 1, x3, x4 => (((g 17 0) ≤ x4) → (K165 x3)) ∧ ((¬ (g 17 0) ≤ x4) → ((vp_in x4 128) ∧ ((vp_in ((g 18 x4.toNatClampNeg) / 8) 16) ∧ (∀ y16 : Int32, y16 = x3 ||| ((1 : Int32) <<< ((g 4 ((g 18 x4.toNatClampNeg) / 8).toNatClampNeg) &&& 31)) → (vr_runOld_130 g K165 Post f y16 (x4 + 1))))))
def vr_runOld (a1 : Int32) (a2 : Int32) (g0 : jm_M) (Post : Int32 → jm_M → Prop) : Prop := vr_works 11 a1 a2 g0 (fun (r1 : Int32) (g2 : jm_M) => (jj_nb r1) ∧ (∀ g3 : jm_M, g3 = jm_s g2 23 r1 → (((¬ (g3 23 0) = 0) → (∃ n25 : Nat, vr_runOld_26 (fun (g7 : jm_M) => ∃ n24 : Nat, vr_runOld_53 (fun (g10 : jm_M) => ∃ n23 : Nat, vr_runOld_82 (fun (g14 : jm_M) => ∃ n22 : Nat, vr_runOld_130 g14 (fun (y17 : Int32) => ((y17 = 0) → (∀ g19 : jm_M, g19 = jm_s g14 28 ((g14 28 0) + 1) → (Post (g19 22 0) g19))) ∧ ((¬ y17 = 0) → ((vp_in y17 1024) ∧ ((vp_in y17 1024) ∧ (∀ g20 : jm_M, g20 = jm_a g14 27 y17 ((g14 27 y17.toNatClampNeg) + 1) → (∀ g21 : jm_M, g21 = jm_s g20 28 ((g20 28 0) + 1) → (Post (g21 22 0) g21))))))) Post n22 0 0) Post n23 0 g10) Post n24 0 g7) Post n25 0 g3)) ∧ (((g3 23 0) = 0) → (Post (-2000000000) g3)))))
set_option maxHeartbeats 4000000 in
set_option maxRecDepth 100000 in
theorem ar_runOld_26 {p : Program} {l : Launch} {e : Env} {s : State} {m : MethodId} {args : Array Value} {below : List Frame} {meth : Method} {c : Code} {D : va_G} {cs : Nat → ClassId} {Y X : va_W} {ad : Nat → Nat} {g0 : jm_M} (hC : JC p s m args meth c D vwCl (va_A (wr_d Y X cs ad g0) s.heap.size) 5 cX11_runOld (some .int) wsX11_runOld RX11 (jt_tys cs)) (Post : Int32 → jm_M → Prop) (K51 : jm_M → Prop) (hK51 : ∀ (g : jm_M) , K51 g → JJ (wr_d Y X cs ad) p l e rm_X11_runOld s m args below meth c D vwCl (va_A (wr_d Y X cs ad g0) s.heap.size) 5 0 0 (MQ below (jj_QI (wr_d Y X cs ad) D vwCl (jt_tys cs) g0 s.heap.size Post) args s 0 0 (va_A (wr_d Y X cs ad g0) s.heap.size)) 51 [(0, .ref (ad 0))] [] g) : ∀ (f : Nat) (x3 : Int32) (g : jm_M), vr_runOld_26 K51 Post f x3 g → JJ (wr_d Y X cs ad) p l e rm_X11_runOld s m args below meth c D vwCl (va_A (wr_d Y X cs ad g0) s.heap.size) 5 0 0 (MQ below (jj_QI (wr_d Y X cs ad) D vwCl (jt_tys cs) g0 s.heap.size Post) args s 0 0 (va_A (wr_d Y X cs ad g0) s.heap.size)) 26 [(0, .ref (ad 0)), (3, .int x3)] [] g := by
  intro f
  induction f with
  | zero => intro x3 g hV; exact hV.elim
  | succ f ih =>
    intro x3 g hV
    rw [vr_runOld_26] at hV
    refine jj_iload_n (pc2 := 27) hC dX11_runOld_26 rfl 1 rfl rfl ?_
    refine jj_sipush (pc2 := 30) hC 128 dX11_runOld_27 (by decide) rfl ?_
    refine jj_icmp_ge (pc2 := 33) hC 51 dX11_runOld_30 (by decide) rfl (fun h5 => ?_) (fun h5 => ?_)
    · have hV := hV.1 h5
      exact jj_sub (lv2 := [(0, .ref (ad 0))]) [0] rfl (hK51 g hV)
    · have hV := hV.2 h5
      refine jj_aload_n (pc2 := 34) hC dX11_runOld_33 rfl 0 rfl rfl ?_
      refine rg_11 (pc2 := 37) hC hi_X11_runOld_X11 lk_X11_runOld_1 dX11_runOld_34 rfl ?_
      refine jj_iload_n (pc2 := 38) hC dX11_runOld_37 rfl 1 rfl rfl ?_
      refine jj_aload_n (pc2 := 39) hC dX11_runOld_38 rfl 0 rfl rfl ?_
      refine rg_13 (pc2 := 42) hC hi_X11_runOld_X11 lk_X11_runOld_4 dX11_runOld_39 rfl ?_
      refine jj_iload_n (pc2 := 43) hC dX11_runOld_42 rfl 1 rfl rfl ?_
      refine ra_13 (pc2 := 44) hC hV.1 dX11_runOld_43 rfl ?_
      have hV := hV.2
      refine rs_11 (pc2 := 45) hC hV.1 dX11_runOld_44 rfl (fun g6 eg6 => ?_)
      have hV := hV.2 g6 eg6
      refine jj_iinc (pc2 := 48) hC (x3 + 1) [(3, .int (x3 + 1)), (0, .ref (ad 0))] dX11_runOld_45 1 rfl rfl (by decide) rfl rfl ?_
      refine jj_goto hC 26 dX11_runOld_48 (by decide) ?_
      exact jj_sub (lv2 := [(0, .ref (ad 0)), (3, .int (x3 + 1))]) [1, 0] rfl (ih (x3 + 1) g6 hV)
set_option maxHeartbeats 4000000 in
set_option maxRecDepth 100000 in
theorem ar_runOld_53 {p : Program} {l : Launch} {e : Env} {s : State} {m : MethodId} {args : Array Value} {below : List Frame} {meth : Method} {c : Code} {D : va_G} {cs : Nat → ClassId} {Y X : va_W} {ad : Nat → Nat} {g0 : jm_M} (hC : JC p s m args meth c D vwCl (va_A (wr_d Y X cs ad g0) s.heap.size) 5 cX11_runOld (some .int) wsX11_runOld RX11 (jt_tys cs)) (Post : Int32 → jm_M → Prop) (K80 : jm_M → Prop) (hK80 : ∀ (g : jm_M) , K80 g → JJ (wr_d Y X cs ad) p l e rm_X11_runOld s m args below meth c D vwCl (va_A (wr_d Y X cs ad g0) s.heap.size) 5 0 0 (MQ below (jj_QI (wr_d Y X cs ad) D vwCl (jt_tys cs) g0 s.heap.size Post) args s 0 0 (va_A (wr_d Y X cs ad g0) s.heap.size)) 80 [(0, .ref (ad 0))] [] g) : ∀ (f : Nat) (x3 : Int32) (g : jm_M), vr_runOld_53 K80 Post f x3 g → JJ (wr_d Y X cs ad) p l e rm_X11_runOld s m args below meth c D vwCl (va_A (wr_d Y X cs ad g0) s.heap.size) 5 0 0 (MQ below (jj_QI (wr_d Y X cs ad) D vwCl (jt_tys cs) g0 s.heap.size Post) args s 0 0 (va_A (wr_d Y X cs ad g0) s.heap.size)) 53 [(0, .ref (ad 0)), (3, .int x3)] [] g := by
  intro f
  induction f with
  | zero => intro x3 g hV; exact hV.elim
  | succ f ih =>
    intro x3 g hV
    rw [vr_runOld_53] at hV
    refine jj_iload_n (pc2 := 54) hC dX11_runOld_53 rfl 1 rfl rfl ?_
    refine jj_bipush (pc2 := 56) hC 100 dX11_runOld_54 (by decide) rfl ?_
    refine jj_icmp_ge (pc2 := 59) hC 80 dX11_runOld_56 (by decide) rfl (fun h8 => ?_) (fun h8 => ?_)
    · have hV := hV.1 h8
      exact jj_sub (lv2 := [(0, .ref (ad 0))]) [0] rfl (hK80 g hV)
    · have hV := hV.2 h8
      refine jj_aload_n (pc2 := 60) hC dX11_runOld_59 rfl 0 rfl rfl ?_
      refine rg_24 (pc2 := 63) hC hi_X11_runOld_X11 lk_X11_runOld_5 dX11_runOld_60 rfl ?_
      refine jj_iload_n (pc2 := 64) hC dX11_runOld_63 rfl 1 rfl rfl ?_
      refine jj_dup2 (pc2 := 65) hC dX11_runOld_64 rfl rfl rfl ?_
      refine ra_24 (pc2 := 66) hC hV.1 dX11_runOld_65 rfl ?_
      have hV := hV.2
      refine jj_aload_n (pc2 := 67) hC dX11_runOld_66 rfl 0 rfl rfl ?_
      refine rg_14 (pc2 := 70) hC hi_X11_runOld_X11 lk_X11_runOld_6 dX11_runOld_67 rfl ?_
      refine jj_iload_n (pc2 := 71) hC dX11_runOld_70 rfl 1 rfl rfl ?_
      refine ra_14 (pc2 := 72) hC hV.1 dX11_runOld_71 rfl ?_
      have hV := hV.2
      refine jj_iadd (pc2 := 73) hC dX11_runOld_72 rfl ?_
      refine rs_24 (pc2 := 74) hC hV.1 dX11_runOld_73 rfl (fun g9 eg9 => ?_)
      have hV := hV.2 g9 eg9
      refine jj_iinc (pc2 := 77) hC (x3 + 1) [(3, .int (x3 + 1)), (0, .ref (ad 0))] dX11_runOld_74 1 rfl rfl (by decide) rfl rfl ?_
      refine jj_goto hC 53 dX11_runOld_77 (by decide) ?_
      exact jj_sub (lv2 := [(0, .ref (ad 0)), (3, .int (x3 + 1))]) [1, 0] rfl (ih (x3 + 1) g9 hV)
set_option maxHeartbeats 4000000 in
set_option maxRecDepth 100000 in
theorem ar_runOld_82 {p : Program} {l : Launch} {e : Env} {s : State} {m : MethodId} {args : Array Value} {below : List Frame} {meth : Method} {c : Code} {D : va_G} {cs : Nat → ClassId} {Y X : va_W} {ad : Nat → Nat} {g0 : jm_M} (hC : JC p s m args meth c D vwCl (va_A (wr_d Y X cs ad g0) s.heap.size) 5 cX11_runOld (some .int) wsX11_runOld RX11 (jt_tys cs)) (Post : Int32 → jm_M → Prop) (K125 : jm_M → Prop) (hK125 : ∀ (g : jm_M) , K125 g → JJ (wr_d Y X cs ad) p l e rm_X11_runOld s m args below meth c D vwCl (va_A (wr_d Y X cs ad g0) s.heap.size) 5 0 0 (MQ below (jj_QI (wr_d Y X cs ad) D vwCl (jt_tys cs) g0 s.heap.size Post) args s 0 0 (va_A (wr_d Y X cs ad g0) s.heap.size)) 125 [(0, .ref (ad 0))] [] g) : ∀ (f : Nat) (x3 : Int32) (g : jm_M), vr_runOld_82 K125 Post f x3 g → JJ (wr_d Y X cs ad) p l e rm_X11_runOld s m args below meth c D vwCl (va_A (wr_d Y X cs ad g0) s.heap.size) 5 0 0 (MQ below (jj_QI (wr_d Y X cs ad) D vwCl (jt_tys cs) g0 s.heap.size Post) args s 0 0 (va_A (wr_d Y X cs ad g0) s.heap.size)) 82 [(0, .ref (ad 0)), (3, .int x3)] [] g := by
  intro f
  induction f with
  | zero => intro x3 g hV; exact hV.elim
  | succ f ih =>
    intro x3 g hV
    rw [vr_runOld_82] at hV
    refine jj_iload_n (pc2 := 83) hC dX11_runOld_82 rfl 1 rfl rfl ?_
    refine jj_sipush (pc2 := 86) hC 160 dX11_runOld_83 (by decide) rfl ?_
    refine jj_icmp_ge (pc2 := 89) hC 125 dX11_runOld_86 (by decide) rfl (fun h11 => ?_) (fun h11 => ?_)
    · have hV := hV.1 h11
      exact jj_sub (lv2 := [(0, .ref (ad 0))]) [0] rfl (hK125 g hV)
    · have hV := hV.2 h11
      refine jj_aload_n (pc2 := 90) hC dX11_runOld_89 rfl 0 rfl rfl ?_
      refine rg_25 (pc2 := 93) hC hi_X11_runOld_X11 lk_X11_runOld_7 dX11_runOld_90 rfl ?_
      refine jj_iload_n (pc2 := 94) hC dX11_runOld_93 rfl 1 rfl rfl ?_
      refine jj_dup2 (pc2 := 95) hC dX11_runOld_94 rfl rfl rfl ?_
      refine ra_25 (pc2 := 96) hC hV.1 dX11_runOld_95 rfl ?_
      have hV := hV.2
      refine jj_aload_n (pc2 := 97) hC dX11_runOld_96 rfl 0 rfl rfl ?_
      refine rg_15 (pc2 := 100) hC hi_X11_runOld_X11 lk_X11_runOld_8 dX11_runOld_97 rfl ?_
      refine jj_iload_n (pc2 := 101) hC dX11_runOld_100 rfl 1 rfl rfl ?_
      refine ra_15 (pc2 := 102) hC hV.1 dX11_runOld_101 rfl ?_
      have hV := hV.2
      refine jj_iadd (pc2 := 103) hC dX11_runOld_102 rfl ?_
      refine rs_25 (pc2 := 104) hC hV.1 dX11_runOld_103 rfl (fun g12 eg12 => ?_)
      have hV := hV.2 g12 eg12
      refine jj_aload_n (pc2 := 105) hC dX11_runOld_104 rfl 0 rfl rfl ?_
      refine rg_26 (pc2 := 108) hC hi_X11_runOld_X11 lk_X11_runOld_9 dX11_runOld_105 rfl ?_
      refine jj_iload_n (pc2 := 109) hC dX11_runOld_108 rfl 1 rfl rfl ?_
      refine jj_dup2 (pc2 := 110) hC dX11_runOld_109 rfl rfl rfl ?_
      refine ra_26 (pc2 := 111) hC hV.1 dX11_runOld_110 rfl ?_
      have hV := hV.2
      refine jj_aload_n (pc2 := 112) hC dX11_runOld_111 rfl 0 rfl rfl ?_
      refine rg_16 (pc2 := 115) hC hi_X11_runOld_X11 lk_X11_runOld_10 dX11_runOld_112 rfl ?_
      refine jj_iload_n (pc2 := 116) hC dX11_runOld_115 rfl 1 rfl rfl ?_
      refine ra_16 (pc2 := 117) hC hV.1 dX11_runOld_116 rfl ?_
      have hV := hV.2
      refine jj_iadd (pc2 := 118) hC dX11_runOld_117 rfl ?_
      refine rs_26 (pc2 := 119) hC hV.1 dX11_runOld_118 rfl (fun g13 eg13 => ?_)
      have hV := hV.2 g13 eg13
      refine jj_iinc (pc2 := 122) hC (x3 + 1) [(3, .int (x3 + 1)), (0, .ref (ad 0))] dX11_runOld_119 1 rfl rfl (by decide) rfl rfl ?_
      refine jj_goto hC 82 dX11_runOld_122 (by decide) ?_
      exact jj_sub (lv2 := [(0, .ref (ad 0)), (3, .int (x3 + 1))]) [1, 0] rfl (ih (x3 + 1) g13 hV)
set_option maxHeartbeats 4000000 in
set_option maxRecDepth 100000 in
theorem ar_runOld_130 {p : Program} {l : Launch} {e : Env} {s : State} {m : MethodId} {args : Array Value} {below : List Frame} {meth : Method} {c : Code} {D : va_G} {cs : Nat → ClassId} {Y X : va_W} {ad : Nat → Nat} {g0 : jm_M} (hC : JC p s m args meth c D vwCl (va_A (wr_d Y X cs ad g0) s.heap.size) 5 cX11_runOld (some .int) wsX11_runOld RX11 (jt_tys cs)) (g : jm_M) (Post : Int32 → jm_M → Prop) (K165 : Int32 → Prop) (hK165 : ∀ (z3 : Int32) , K165 z3 → JJ (wr_d Y X cs ad) p l e rm_X11_runOld s m args below meth c D vwCl (va_A (wr_d Y X cs ad g0) s.heap.size) 5 0 0 (MQ below (jj_QI (wr_d Y X cs ad) D vwCl (jt_tys cs) g0 s.heap.size Post) args s 0 0 (va_A (wr_d Y X cs ad g0) s.heap.size)) 165 [(0, .ref (ad 0)), (3, .int z3)] [] g) : ∀ (f : Nat) (x3 : Int32) (x4 : Int32), vr_runOld_130 g K165 Post f x3 x4 → JJ (wr_d Y X cs ad) p l e rm_X11_runOld s m args below meth c D vwCl (va_A (wr_d Y X cs ad g0) s.heap.size) 5 0 0 (MQ below (jj_QI (wr_d Y X cs ad) D vwCl (jt_tys cs) g0 s.heap.size Post) args s 0 0 (va_A (wr_d Y X cs ad g0) s.heap.size)) 130 [(0, .ref (ad 0)), (3, .int x3), (4, .int x4)] [] g := by
  intro f
  induction f with
  | zero => intro x3 x4 hV; exact hV.elim
  | succ f ih =>
    intro x3 x4 hV
    rw [vr_runOld_130] at hV
    refine jj_iload (pc2 := 132) hC dX11_runOld_130 2 rfl rfl ?_
    refine jj_aload_n (pc2 := 133) hC dX11_runOld_132 rfl 0 rfl rfl ?_
    refine rg_17 (pc2 := 136) hC hi_X11_runOld_X11 lk_X11_runOld_11 dX11_runOld_133 rfl ?_
    refine jj_icmp_ge (pc2 := 139) hC 165 dX11_runOld_136 (by decide) rfl (fun h15 => ?_) (fun h15 => ?_)
    · have hV := hV.1 h15
      exact jj_sub (lv2 := [(0, .ref (ad 0)), (3, .int x3)]) [0, 1] rfl (hK165 x3 hV)
    · have hV := hV.2 h15
      refine jj_iload_n (pc2 := 140) hC dX11_runOld_139 rfl 1 rfl rfl ?_
      refine jj_iconst (pc2 := 141) hC 1 dX11_runOld_140 (by decide) rfl ?_
      refine jj_aload_n (pc2 := 142) hC dX11_runOld_141 rfl 0 rfl rfl ?_
      refine rg_4 (pc2 := 145) hC hi_X11_runOld_X11 lk_X11_runOld_12 dX11_runOld_142 rfl ?_
      refine jj_aload_n (pc2 := 146) hC dX11_runOld_145 rfl 0 rfl rfl ?_
      refine rg_18 (pc2 := 149) hC hi_X11_runOld_X11 lk_X11_runOld_13 dX11_runOld_146 rfl ?_
      refine jj_iload (pc2 := 151) hC dX11_runOld_149 2 rfl rfl ?_
      refine ra_18 (pc2 := 152) hC hV.1 dX11_runOld_151 rfl ?_
      have hV := hV.2
      refine jj_bipush (pc2 := 154) hC 8 dX11_runOld_152 (by decide) rfl ?_
      refine jj_idiv (pc2 := 155) hC dX11_runOld_154 (by decide) rfl ?_
      refine ra_4 (pc2 := 156) hC hV.1 dX11_runOld_155 rfl ?_
      have hV := hV.2
      refine jj_ishl (pc2 := 157) hC dX11_runOld_156 rfl ?_
      refine jj_ior (pc2 := 158) hC dX11_runOld_157 rfl ?_
      refine jj_topi (fun y16 ey16 => ?_)
      have hV := hV y16 ey16
      refine jj_istore_n (pc2 := 159) hC [(3, .int y16), (0, .ref (ad 0)), (4, .int x4)] dX11_runOld_158 rfl (by decide) rfl rfl ?_
      refine jj_iinc (pc2 := 162) hC (x4 + 1) [(4, .int (x4 + 1)), (3, .int y16), (0, .ref (ad 0))] dX11_runOld_159 2 rfl rfl (by decide) rfl rfl ?_
      refine jj_goto hC 130 dX11_runOld_162 (by decide) ?_
      exact jj_sub (lv2 := [(0, .ref (ad 0)), (3, .int y16), (4, .int (x4 + 1))]) [2, 1, 0] rfl (ih y16 (x4 + 1) hV)
set_option maxHeartbeats 4000000 in
set_option maxRecDepth 100000 in
theorem cr_runOld (l : Launch) (D : va_G) (cs : Nat → ClassId) (Y X : va_W) (ad : Nat → Nat) (a1 : Int32) (a2 : Int32) (g0 : jm_M) (Post : Int32 → jm_M → Prop) (hV : vr_runOld a1 a2 g0 Post) : JI (wr_d Y X cs ad) D vwCl (jt_tys cs) l yX11_runOld wsX11_runOld rm_X11_runOld 0 0 [.ref (ad 0), .int a1, .int a2] g0 Post := by
  refine jj_metI (cc := cX11_runOld) (nL := 5) (ret := (some .int)) (by decide) rfl (Nat.le_of_ble_eq_true rfl) [(0, .ref (ad 0)), (1, .int a1), (2, .int a2)] rfl ?_
  intro p e s m args below meth c hC hnm
  rw [vr_runOld] at hV
  refine jj_aload_n (pc2 := 1) hC dX11_runOld_0 rfl 0 rfl rfl ?_
  refine jj_aload_n (pc2 := 2) hC dX11_runOld_1 rfl 0 rfl rfl ?_
  refine jj_iload_n (pc2 := 3) hC dX11_runOld_2 rfl 1 rfl rfl ?_
  refine jj_iload_n (pc2 := 4) hC dX11_runOld_3 rfl 2 rfl rfl ?_
  refine jj_aload_n (pc2 := 5) hC dX11_runOld_4 rfl 0 rfl rfl ?_
  refine rg_11 (pc2 := 8) hC hi_X11_runOld_X11 lk_X11_runOld_1 dX11_runOld_5 rfl ?_
  refine jj_cVI (pc2 := 11) (wd := wr_d Y X cs ad) (g := g0) (rest := [.ref (ad 0)]) hC (Y.length + 0) (jx_at (V := wr_W cs ad g0) rfl) rfl rfl (cr_works_11 l D cs Y X ad a1 a2 g0 _ hV) (cwV 3 hC.1.2.2.2.2 gX11_runOld_X11_works rfl rfl rfl (by decide +kernel) ⟨by decide, by decide⟩) rfl (Nat.le_of_ble_eq_true rfl) _ rfl dX11_runOld_8 ⟨Nat.zero_le _, Nat.zero_le _⟩ rfl (fun r1 g2 hV => ?_)
  refine rp_23 (pc2 := 14) hC hi_X11_runOld_X11 lk_X11_runOld_2 hV.1 dX11_runOld_11 rfl (fun g3 eg3 => ?_)
  have hV := hV.2 g3 eg3
  refine jj_aload_n (pc2 := 15) hC dX11_runOld_14 rfl 0 rfl rfl ?_
  refine rg_23 (pc2 := 18) hC hi_X11_runOld_X11 lk_X11_runOld_2 dX11_runOld_15 rfl ?_
  refine jj_if_ne (pc2 := 21) hC 24 dX11_runOld_18 (by decide) rfl (fun h4 => ?_) (fun h4 => ?_)
  · have hV := hV.1 h4
    refine jj_iconst (pc2 := 25) hC 0 dX11_runOld_24 (by decide) rfl ?_
    refine jj_istore_n (pc2 := 26) hC [(3, .int 0), (0, .ref (ad 0)), (1, .int a1), (2, .int a2)] dX11_runOld_25 rfl (by decide) rfl rfl ?_
    obtain ⟨n25, hV⟩ := hV
    refine jj_sub (lv2 := [(0, .ref (ad 0)), (3, .int 0)]) [1, 0] rfl (ar_runOld_26 hC Post _ (fun g7 hV => ?_) n25 0 g3 hV)
    refine jj_iconst (pc2 := 52) hC 0 dX11_runOld_51 (by decide) rfl ?_
    refine jj_istore_n (pc2 := 53) hC [(3, .int 0), (0, .ref (ad 0))] dX11_runOld_52 rfl (by decide) rfl rfl ?_
    obtain ⟨n24, hV⟩ := hV
    refine jj_sub (lv2 := [(0, .ref (ad 0)), (3, .int 0)]) [1, 0] rfl (ar_runOld_53 hC Post _ (fun g10 hV => ?_) n24 0 g7 hV)
    refine jj_iconst (pc2 := 81) hC 0 dX11_runOld_80 (by decide) rfl ?_
    refine jj_istore_n (pc2 := 82) hC [(3, .int 0), (0, .ref (ad 0))] dX11_runOld_81 rfl (by decide) rfl rfl ?_
    obtain ⟨n23, hV⟩ := hV
    refine jj_sub (lv2 := [(0, .ref (ad 0)), (3, .int 0)]) [1, 0] rfl (ar_runOld_82 hC Post _ (fun g14 hV => ?_) n23 0 g10 hV)
    refine jj_iconst (pc2 := 126) hC 0 dX11_runOld_125 (by decide) rfl ?_
    refine jj_istore_n (pc2 := 127) hC [(3, .int 0), (0, .ref (ad 0))] dX11_runOld_126 rfl (by decide) rfl rfl ?_
    refine jj_iconst (pc2 := 128) hC 0 dX11_runOld_127 (by decide) rfl ?_
    refine jj_istore (pc2 := 130) hC [(4, .int 0), (3, .int 0), (0, .ref (ad 0))] dX11_runOld_128 (by decide) rfl rfl ?_
    obtain ⟨n22, hV⟩ := hV
    refine jj_sub (lv2 := [(0, .ref (ad 0)), (3, .int 0), (4, .int 0)]) [2, 1, 0] rfl (ar_runOld_130 hC g14 Post _ (fun y17 hV => ?_) n22 0 0 hV)
    refine jj_iload_n (pc2 := 166) hC dX11_runOld_165 rfl 1 rfl rfl ?_
    refine jj_if_eq (pc2 := 169) hC 179 dX11_runOld_166 (by decide) rfl (fun h18 => ?_) (fun h18 => ?_)
    · have hV := hV.1 h18
      refine jj_aload_n (pc2 := 180) hC dX11_runOld_179 rfl 0 rfl rfl ?_
      refine jj_dup (pc2 := 181) hC dX11_runOld_180 rfl rfl ?_
      refine rg_28 (pc2 := 184) hC hi_X11_runOld_X11 lk_X11_runOld_15 dX11_runOld_181 rfl ?_
      refine jj_iconst (pc2 := 185) hC 1 dX11_runOld_184 (by decide) rfl ?_
      refine jj_iadd (pc2 := 186) hC dX11_runOld_185 rfl ?_
      refine rp_28 (pc2 := 189) hC hi_X11_runOld_X11 lk_X11_runOld_15 dX11_runOld_186 rfl (fun g19 eg19 => ?_)
      have hV := hV g19 eg19
      refine jj_aload_n (pc2 := 190) hC dX11_runOld_189 rfl 0 rfl rfl ?_
      refine rg_22 (pc2 := 193) hC hi_X11_runOld_X11 lk_X11_runOld_16 dX11_runOld_190 rfl ?_
      exact jj_iret hC dX11_runOld_193 hV
    · have hV := hV.2 h18
      refine jj_aload_n (pc2 := 170) hC dX11_runOld_169 rfl 0 rfl rfl ?_
      refine rg_27 (pc2 := 173) hC hi_X11_runOld_X11 lk_X11_runOld_14 dX11_runOld_170 rfl ?_
      refine jj_iload_n (pc2 := 174) hC dX11_runOld_173 rfl 1 rfl rfl ?_
      refine jj_dup2 (pc2 := 175) hC dX11_runOld_174 rfl rfl rfl ?_
      refine ra_27 (pc2 := 176) hC hV.1 dX11_runOld_175 rfl ?_
      have hV := hV.2
      refine jj_iconst (pc2 := 177) hC 1 dX11_runOld_176 (by decide) rfl ?_
      refine jj_iadd (pc2 := 178) hC dX11_runOld_177 rfl ?_
      refine rs_27 (pc2 := 179) hC hV.1 dX11_runOld_178 rfl (fun g20 eg20 => ?_)
      have hV := hV.2 g20 eg20
      refine jj_aload_n (pc2 := 180) hC dX11_runOld_179 rfl 0 rfl rfl ?_
      refine jj_dup (pc2 := 181) hC dX11_runOld_180 rfl rfl ?_
      refine rg_28 (pc2 := 184) hC hi_X11_runOld_X11 lk_X11_runOld_15 dX11_runOld_181 rfl ?_
      refine jj_iconst (pc2 := 185) hC 1 dX11_runOld_184 (by decide) rfl ?_
      refine jj_iadd (pc2 := 186) hC dX11_runOld_185 rfl ?_
      refine rp_28 (pc2 := 189) hC hi_X11_runOld_X11 lk_X11_runOld_15 dX11_runOld_186 rfl (fun g21 eg21 => ?_)
      have hV := hV g21 eg21
      refine jj_aload_n (pc2 := 190) hC dX11_runOld_189 rfl 0 rfl rfl ?_
      refine rg_22 (pc2 := 193) hC hi_X11_runOld_X11 lk_X11_runOld_16 dX11_runOld_190 rfl ?_
      exact jj_iret hC dX11_runOld_193 hV
  · have hV := hV.2 h4
    refine jj_ldc (pc2 := 23) hC lk_X11_runOld_3 dX11_runOld_21 rfl ?_
    exact jj_iret hC dX11_runOld_23 hV
abbrev rm_X11_run : Room := { frames := 3, cells := 0, slots := 0, locals := 78 }
def vr_run (a1 : Int32) (a2 : Int32) (g0 : jm_M) (Post : Int32 → jm_M → Prop) : Prop := vr_isRoutine a1 g0 (fun (r1 : Int32) => ((r1 = 0) → (Post (-1) g0)) ∧ ((¬ r1 = 0) → (vr_runOld a1 a2 g0 (fun (r3 : Int32) (g4 : jm_M) => Post r3 g4))))
set_option maxHeartbeats 4000000 in
set_option maxRecDepth 100000 in
theorem cr_run (l : Launch) (D : va_G) (cs : Nat → ClassId) (Y X : va_W) (ad : Nat → Nat) (a1 : Int32) (a2 : Int32) (g0 : jm_M) (Post : Int32 → jm_M → Prop) (hV : vr_run a1 a2 g0 Post) : JI (wr_d Y X cs ad) D vwCl (jt_tys cs) l yX11_run wsX11_run rm_X11_run 0 0 [.ref (ad 0), .int a1, .int a2] g0 Post := by
  refine jj_metI (cc := cX11_run) (nL := 3) (ret := (some .int)) (by decide) rfl (Nat.le_of_ble_eq_true rfl) [(0, .ref (ad 0)), (1, .int a1), (2, .int a2)] rfl ?_
  intro p e s m args below meth c hC hnm
  rw [vr_run] at hV
  refine jj_aload_n (pc2 := 1) hC dX11_run_0 rfl 0 rfl rfl ?_
  refine jj_iload_n (pc2 := 2) hC dX11_run_1 rfl 1 rfl rfl ?_
  refine jj_cVIp (pc2 := 5) (wd := wr_d Y X cs ad) (g := g0) (rest := []) hC (Y.length + 0) (jx_at (V := wr_W cs ad g0) rfl) rfl rfl (cr_isRoutine l D cs Y X ad a1 g0 _ hV) (cwV 1 hC.1.2.2.2.2 gX11_run_X11_isRoutine rfl rfl rfl (by decide +kernel) ⟨by decide, by decide⟩) rfl (Nat.le_of_ble_eq_true rfl) _ rfl dX11_run_2 ⟨Nat.zero_le _, Nat.zero_le _⟩ rfl (fun r1 hV => ?_)
  refine jj_if_eq (pc2 := 8) hC 17 dX11_run_5 (by decide) rfl (fun h2 => ?_) (fun h2 => ?_)
  · have hV := hV.1 h2
    refine jj_iconst (pc2 := 18) hC (-1) dX11_run_17 (by decide) rfl ?_
    exact jj_iret hC dX11_run_18 hV
  · have hV := hV.2 h2
    refine jj_aload_n (pc2 := 9) hC dX11_run_8 rfl 0 rfl rfl ?_
    refine jj_iload_n (pc2 := 10) hC dX11_run_9 rfl 1 rfl rfl ?_
    refine jj_iload_n (pc2 := 11) hC dX11_run_10 rfl 2 rfl rfl ?_
    refine jj_cVI (pc2 := 14) (wd := wr_d Y X cs ad) (g := g0) (rest := []) hC (Y.length + 0) (jx_at (V := wr_W cs ad g0) rfl) rfl rfl (cr_runOld l D cs Y X ad a1 a2 g0 _ hV) (cwV 2 hC.1.2.2.2.2 gX11_run_X11_runOld rfl rfl rfl (by decide +kernel) ⟨by decide, by decide⟩) rfl (Nat.le_of_ble_eq_true rfl) _ rfl dX11_run_11 ⟨Nat.zero_le _, Nat.zero_le _⟩ rfl (fun r3 g4 hV => ?_)
    refine jj_goto hC 18 dX11_run_14 (by decide) ?_
    exact jj_iret hC dX11_run_18 hV
theorem lk_X11_cell_1 : Cond.constant RX11 192 (-2000000000) ∈ wsX11_cell := List.mem_of_getElem? (i := 1) rfl
theorem hi_X11_cell_X11 : ∀ w ∈ u_ws RX11 TX11 63, w ∈ wsX11_cell := fun _ h => List.mem_cons_of_mem _ (List.mem_append_right _ h)
theorem lk_X11_cell_3 : Cond.fieldLink RX11 34 "PartedHouseModel" "fresh" "[I" ∈ wsX11_cell := List.mem_of_getElem? (i := 3) rfl
theorem lk_X11_cell_2 : Cond.fieldLink RX11 31 "PartedHouseModel" "old" "[I" ∈ wsX11_cell := List.mem_of_getElem? (i := 2) rfl
abbrev rm_X11_cell : Room := { frames := 2, cells := 0, slots := 0, locals := 43 }
def vr_cell (a1 : Int32) (a2 : Int32) (a3 : Int32) (g0 : jm_M) (Post : Int32 → Prop) : Prop := vr_in a1 0 1 g0 (fun (r1 : Int32) => ((r1 = 0) → (Post (-2000000000))) ∧ ((¬ r1 = 0) → (vr_isTable a2 g0 (fun (r3 : Int32) => ((r3 = 0) → (Post (-2000000000))) ∧ ((¬ r3 = 0) → (vr_in a3 0 7 g0 (fun (r5 : Int32) => ((¬ r5 = 0) → (((¬ a1 = 0) → ((vp_in (((8 : Int32) * a2) + a3) 128) ∧ (Post (g0 12 (((8 : Int32) * a2) + a3).toNatClampNeg)))) ∧ ((a1 = 0) → ((vp_in (((8 : Int32) * a2) + a3) 128) ∧ (Post (g0 11 (((8 : Int32) * a2) + a3).toNatClampNeg)))))) ∧ ((r5 = 0) → (Post (-2000000000))))))))))
set_option maxHeartbeats 4000000 in
set_option maxRecDepth 100000 in
theorem cr_cell (l : Launch) (D : va_G) (cs : Nat → ClassId) (Y X : va_W) (ad : Nat → Nat) (a1 : Int32) (a2 : Int32) (a3 : Int32) (g0 : jm_M) (Post : Int32 → Prop) (hV : vr_cell a1 a2 a3 g0 Post) : JI (wr_d Y X cs ad) D vwCl (jt_tys cs) l yX11_cell wsX11_cell rm_X11_cell 0 0 [.ref (ad 0), .int a1, .int a2, .int a3] g0 (fun r g2 => Post r ∧ g2 = g0) := by
  refine jj_metI (cc := cX11_cell) (nL := 4) (ret := (some .int)) (by decide) rfl (Nat.le_of_ble_eq_true rfl) [(0, .ref (ad 0)), (1, .int a1), (2, .int a2), (3, .int a3)] rfl ?_
  intro p e s m args below meth c hC hnm
  rw [vr_cell] at hV
  refine jj_iload_n (pc2 := 1) hC dX11_cell_0 rfl 1 rfl rfl ?_
  refine jj_iconst (pc2 := 2) hC 0 dX11_cell_1 (by decide) rfl ?_
  refine jj_iconst (pc2 := 3) hC 1 dX11_cell_2 (by decide) rfl ?_
  refine jj_cSIp (pc2 := 6) (wd := wr_d Y X cs ad) (g := g0) (rest := []) hC (cr_in l D cs Y X ad a1 0 1 g0 _ hV) (va_cwS 3 hC.1.2.2.2.2 gX11_cell_X11_in rfl rfl rfl (by decide +kernel) ⟨by decide, by decide⟩) rfl (Nat.le_of_ble_eq_true rfl) _ rfl dX11_cell_3 ⟨Nat.zero_le _, Nat.zero_le _⟩ rfl (fun r1 hV => ?_)
  refine jj_if_eq (pc2 := 9) hC 27 dX11_cell_6 (by decide) rfl (fun h2 => ?_) (fun h2 => ?_)
  · have hV := hV.1 h2
    refine jj_ldc (pc2 := 29) hC lk_X11_cell_1 dX11_cell_27 rfl ?_
    refine jj_goto hC 61 dX11_cell_29 (by decide) ?_
    exact jj_iret hC dX11_cell_61 ⟨hV, rfl⟩
  · have hV := hV.2 h2
    refine jj_aload_n (pc2 := 10) hC dX11_cell_9 rfl 0 rfl rfl ?_
    refine jj_iload_n (pc2 := 11) hC dX11_cell_10 rfl 2 rfl rfl ?_
    refine jj_cVIp (pc2 := 14) (wd := wr_d Y X cs ad) (g := g0) (rest := []) hC (Y.length + 0) (jx_at (V := wr_W cs ad g0) rfl) rfl rfl (cr_isTable l D cs Y X ad a2 g0 _ hV) (cwV 1 hC.1.2.2.2.2 gX11_cell_X11_isTable rfl rfl rfl (by decide +kernel) ⟨by decide, by decide⟩) rfl (Nat.le_of_ble_eq_true rfl) _ rfl dX11_cell_11 ⟨Nat.zero_le _, Nat.zero_le _⟩ rfl (fun r3 hV => ?_)
    refine jj_if_eq (pc2 := 17) hC 27 dX11_cell_14 (by decide) rfl (fun h4 => ?_) (fun h4 => ?_)
    · have hV := hV.1 h4
      refine jj_ldc (pc2 := 29) hC lk_X11_cell_1 dX11_cell_27 rfl ?_
      refine jj_goto hC 61 dX11_cell_29 (by decide) ?_
      exact jj_iret hC dX11_cell_61 ⟨hV, rfl⟩
    · have hV := hV.2 h4
      refine jj_iload_n (pc2 := 18) hC dX11_cell_17 rfl 3 rfl rfl ?_
      refine jj_iconst (pc2 := 19) hC 0 dX11_cell_18 (by decide) rfl ?_
      refine jj_bipush (pc2 := 21) hC 7 dX11_cell_19 (by decide) rfl ?_
      refine jj_cSIp (pc2 := 24) (wd := wr_d Y X cs ad) (g := g0) (rest := []) hC (cr_in l D cs Y X ad a3 0 7 g0 _ hV) (va_cwS 3 hC.1.2.2.2.2 gX11_cell_X11_in rfl rfl rfl (by decide +kernel) ⟨by decide, by decide⟩) rfl (Nat.le_of_ble_eq_true rfl) _ rfl dX11_cell_21 ⟨Nat.zero_le _, Nat.zero_le _⟩ rfl (fun r5 hV => ?_)
      refine jj_if_ne (pc2 := 27) hC 32 dX11_cell_24 (by decide) rfl (fun h6 => ?_) (fun h6 => ?_)
      · have hV := hV.1 h6
        refine jj_iload_n (pc2 := 33) hC dX11_cell_32 rfl 1 rfl rfl ?_
        refine jj_if_ne (pc2 := 36) hC 50 dX11_cell_33 (by decide) rfl (fun h7 => ?_) (fun h7 => ?_)
        · have hV := hV.1 h7
          refine jj_aload_n (pc2 := 51) hC dX11_cell_50 rfl 0 rfl rfl ?_
          refine rg_12 (pc2 := 54) hC hi_X11_cell_X11 lk_X11_cell_3 dX11_cell_51 rfl ?_
          refine jj_bipush (pc2 := 56) hC 8 dX11_cell_54 (by decide) rfl ?_
          refine jj_iload_n (pc2 := 57) hC dX11_cell_56 rfl 2 rfl rfl ?_
          refine jj_imul (pc2 := 58) hC dX11_cell_57 rfl ?_
          refine jj_iload_n (pc2 := 59) hC dX11_cell_58 rfl 3 rfl rfl ?_
          refine jj_iadd (pc2 := 60) hC dX11_cell_59 rfl ?_
          refine ra_12 (pc2 := 61) hC hV.1 dX11_cell_60 rfl ?_
          have hV := hV.2
          exact jj_iret hC dX11_cell_61 ⟨hV, rfl⟩
        · have hV := hV.2 h7
          refine jj_aload_n (pc2 := 37) hC dX11_cell_36 rfl 0 rfl rfl ?_
          refine rg_11 (pc2 := 40) hC hi_X11_cell_X11 lk_X11_cell_2 dX11_cell_37 rfl ?_
          refine jj_bipush (pc2 := 42) hC 8 dX11_cell_40 (by decide) rfl ?_
          refine jj_iload_n (pc2 := 43) hC dX11_cell_42 rfl 2 rfl rfl ?_
          refine jj_imul (pc2 := 44) hC dX11_cell_43 rfl ?_
          refine jj_iload_n (pc2 := 45) hC dX11_cell_44 rfl 3 rfl rfl ?_
          refine jj_iadd (pc2 := 46) hC dX11_cell_45 rfl ?_
          refine ra_11 (pc2 := 47) hC hV.1 dX11_cell_46 rfl ?_
          have hV := hV.2
          refine jj_goto hC 61 dX11_cell_47 (by decide) ?_
          exact jj_iret hC dX11_cell_61 ⟨hV, rfl⟩
      · have hV := hV.2 h6
        refine jj_ldc (pc2 := 29) hC lk_X11_cell_1 dX11_cell_27 rfl ?_
        refine jj_goto hC 61 dX11_cell_29 (by decide) ?_
        exact jj_iret hC dX11_cell_61 ⟨hV, rfl⟩
abbrev rm_X11_isCount : Room := { frames := 2, cells := 0, slots := 0, locals := 43 }
def vr_isCount (a1 : Int32) (a2 : Int32) (a3 : Int32) (g0 : jm_M) (Post : Int32 → Prop) : Prop := vr_in a1 0 2 g0 (fun (r1 : Int32) => ((r1 = 0) → (Post 0)) ∧ ((¬ r1 = 0) → (vr_isModule a2 g0 (fun (r3 : Int32) => ((r3 = 0) → (Post 0)) ∧ ((¬ r3 = 0) → (((¬ a1 = 0) → (vr_isTable a3 g0 (fun (r6 : Int32) => ((r6 = 0) → (Post 0)) ∧ ((¬ r6 = 0) → (Post 1))))) ∧ ((a1 = 0) → (vr_isModule a3 g0 (fun (r8 : Int32) => ((r8 = 0) → (Post 0)) ∧ ((¬ r8 = 0) → (Post 1)))))))))))
set_option maxHeartbeats 4000000 in
set_option maxRecDepth 100000 in
theorem cr_isCount (l : Launch) (D : va_G) (cs : Nat → ClassId) (Y X : va_W) (ad : Nat → Nat) (a1 : Int32) (a2 : Int32) (a3 : Int32) (g0 : jm_M) (Post : Int32 → Prop) (hV : vr_isCount a1 a2 a3 g0 Post) : JI (wr_d Y X cs ad) D vwCl (jt_tys cs) l yX11_isCount wsX11_isCount rm_X11_isCount 0 0 [.ref (ad 0), .int a1, .int a2, .int a3] g0 (fun r g2 => Post r ∧ g2 = g0) := by
  refine jj_metI (cc := cX11_isCount) (nL := 4) (ret := (some .boolean)) (by decide) rfl (Nat.le_of_ble_eq_true rfl) [(0, .ref (ad 0)), (1, .int a1), (2, .int a2), (3, .int a3)] rfl ?_
  intro p e s m args below meth c hC hnm
  rw [vr_isCount] at hV
  refine jj_iload_n (pc2 := 1) hC dX11_isCount_0 rfl 1 rfl rfl ?_
  refine jj_iconst (pc2 := 2) hC 0 dX11_isCount_1 (by decide) rfl ?_
  refine jj_iconst (pc2 := 3) hC 2 dX11_isCount_2 (by decide) rfl ?_
  refine jj_cSIp (pc2 := 6) (wd := wr_d Y X cs ad) (g := g0) (rest := []) hC (cr_in l D cs Y X ad a1 0 2 g0 _ hV) (va_cwS 3 hC.1.2.2.2.2 gX11_isCount_X11_in rfl rfl rfl (by decide +kernel) ⟨by decide, by decide⟩) rfl (Nat.le_of_ble_eq_true rfl) _ rfl dX11_isCount_3 ⟨Nat.zero_le _, Nat.zero_le _⟩ rfl (fun r1 hV => ?_)
  refine jj_if_eq (pc2 := 9) hC 44 dX11_isCount_6 (by decide) rfl (fun h2 => ?_) (fun h2 => ?_)
  · have hV := hV.1 h2
    refine jj_iconst (pc2 := 45) hC 0 dX11_isCount_44 (by decide) rfl ?_
    exact jj_zret hC jj_nb0 dX11_isCount_45 ⟨hV, rfl⟩
  · have hV := hV.2 h2
    refine jj_aload_n (pc2 := 10) hC dX11_isCount_9 rfl 0 rfl rfl ?_
    refine jj_iload_n (pc2 := 11) hC dX11_isCount_10 rfl 2 rfl rfl ?_
    refine jj_cVIp (pc2 := 14) (wd := wr_d Y X cs ad) (g := g0) (rest := []) hC (Y.length + 0) (jx_at (V := wr_W cs ad g0) rfl) rfl rfl (cr_isModule l D cs Y X ad a2 g0 _ hV) (cwV 1 hC.1.2.2.2.2 gX11_isCount_X11_isModule rfl rfl rfl (by decide +kernel) ⟨by decide, by decide⟩) rfl (Nat.le_of_ble_eq_true rfl) _ rfl dX11_isCount_11 ⟨Nat.zero_le _, Nat.zero_le _⟩ rfl (fun r3 hV => ?_)
    refine jj_if_eq (pc2 := 17) hC 44 dX11_isCount_14 (by decide) rfl (fun h4 => ?_) (fun h4 => ?_)
    · have hV := hV.1 h4
      refine jj_iconst (pc2 := 45) hC 0 dX11_isCount_44 (by decide) rfl ?_
      exact jj_zret hC jj_nb0 dX11_isCount_45 ⟨hV, rfl⟩
    · have hV := hV.2 h4
      refine jj_iload_n (pc2 := 18) hC dX11_isCount_17 rfl 1 rfl rfl ?_
      refine jj_if_ne (pc2 := 21) hC 32 dX11_isCount_18 (by decide) rfl (fun h5 => ?_) (fun h5 => ?_)
      · have hV := hV.1 h5
        refine jj_aload_n (pc2 := 33) hC dX11_isCount_32 rfl 0 rfl rfl ?_
        refine jj_iload_n (pc2 := 34) hC dX11_isCount_33 rfl 3 rfl rfl ?_
        refine jj_cVIp (pc2 := 37) (wd := wr_d Y X cs ad) (g := g0) (rest := []) hC (Y.length + 0) (jx_at (V := wr_W cs ad g0) rfl) rfl rfl (cr_isTable l D cs Y X ad a3 g0 _ hV) (cwV 1 hC.1.2.2.2.2 gX11_isCount_X11_isTable rfl rfl rfl (by decide +kernel) ⟨by decide, by decide⟩) rfl (Nat.le_of_ble_eq_true rfl) _ rfl dX11_isCount_34 ⟨Nat.zero_le _, Nat.zero_le _⟩ rfl (fun r6 hV => ?_)
        refine jj_if_eq (pc2 := 40) hC 44 dX11_isCount_37 (by decide) rfl (fun h7 => ?_) (fun h7 => ?_)
        · have hV := hV.1 h7
          refine jj_iconst (pc2 := 45) hC 0 dX11_isCount_44 (by decide) rfl ?_
          exact jj_zret hC jj_nb0 dX11_isCount_45 ⟨hV, rfl⟩
        · have hV := hV.2 h7
          refine jj_iconst (pc2 := 41) hC 1 dX11_isCount_40 (by decide) rfl ?_
          refine jj_goto hC 45 dX11_isCount_41 (by decide) ?_
          exact jj_zret hC jj_nb1 dX11_isCount_45 ⟨hV, rfl⟩
      · have hV := hV.2 h5
        refine jj_aload_n (pc2 := 22) hC dX11_isCount_21 rfl 0 rfl rfl ?_
        refine jj_iload_n (pc2 := 23) hC dX11_isCount_22 rfl 3 rfl rfl ?_
        refine jj_cVIp (pc2 := 26) (wd := wr_d Y X cs ad) (g := g0) (rest := []) hC (Y.length + 0) (jx_at (V := wr_W cs ad g0) rfl) rfl rfl (cr_isModule l D cs Y X ad a3 g0 _ hV) (cwV 1 hC.1.2.2.2.2 gX11_isCount_X11_isModule rfl rfl rfl (by decide +kernel) ⟨by decide, by decide⟩) rfl (Nat.le_of_ble_eq_true rfl) _ rfl dX11_isCount_23 ⟨Nat.zero_le _, Nat.zero_le _⟩ rfl (fun r8 hV => ?_)
        refine jj_if_eq (pc2 := 29) hC 44 dX11_isCount_26 (by decide) rfl (fun h9 => ?_) (fun h9 => ?_)
        · have hV := hV.1 h9
          refine jj_iconst (pc2 := 45) hC 0 dX11_isCount_44 (by decide) rfl ?_
          exact jj_zret hC jj_nb0 dX11_isCount_45 ⟨hV, rfl⟩
        · have hV := hV.2 h9
          refine jj_goto hC 40 dX11_isCount_29 (by decide) ?_
          refine jj_iconst (pc2 := 41) hC 1 dX11_isCount_40 (by decide) rfl ?_
          refine jj_goto hC 45 dX11_isCount_41 (by decide) ?_
          exact jj_zret hC jj_nb1 dX11_isCount_45 ⟨hV, rfl⟩
theorem hi_X11_counted_X11 : ∀ w ∈ u_ws RX11 TX11 63, w ∈ wsX11_counted := fun _ h => List.mem_cons_of_mem _ (List.mem_append_right _ h)
theorem lk_X11_counted_3 : Cond.fieldLink RX11 68 "PartedHouseModel" "writes" "[I" ∈ wsX11_counted := List.mem_of_getElem? (i := 3) rfl
theorem lk_X11_counted_2 : Cond.fieldLink RX11 65 "PartedHouseModel" "reads" "[I" ∈ wsX11_counted := List.mem_of_getElem? (i := 2) rfl
theorem lk_X11_counted_1 : Cond.fieldLink RX11 62 "PartedHouseModel" "calls" "[I" ∈ wsX11_counted := List.mem_of_getElem? (i := 1) rfl
abbrev rm_X11_counted : Room := { frames := 3, cells := 0, slots := 0, locals := 66 }
def vr_counted (a1 : Int32) (a2 : Int32) (a3 : Int32) (g0 : jm_M) (Post : Int32 → Prop) : Prop := vr_isCount a1 a2 a3 g0 (fun (r1 : Int32) => ((¬ r1 = 0) → (((¬ a1 = 0) → (((¬ a1 = 1) → ((vp_in (((16 : Int32) * a2) + a3) 160) ∧ (Post (g0 26 (((16 : Int32) * a2) + a3).toNatClampNeg)))) ∧ ((a1 = 1) → ((vp_in (((16 : Int32) * a2) + a3) 160) ∧ (Post (g0 25 (((16 : Int32) * a2) + a3).toNatClampNeg)))))) ∧ ((a1 = 0) → ((vp_in (((10 : Int32) * a2) + a3) 100) ∧ (Post (g0 24 (((10 : Int32) * a2) + a3).toNatClampNeg)))))) ∧ ((r1 = 0) → (Post (-1))))
set_option maxHeartbeats 4000000 in
set_option maxRecDepth 100000 in
theorem cr_counted (l : Launch) (D : va_G) (cs : Nat → ClassId) (Y X : va_W) (ad : Nat → Nat) (a1 : Int32) (a2 : Int32) (a3 : Int32) (g0 : jm_M) (Post : Int32 → Prop) (hV : vr_counted a1 a2 a3 g0 Post) : JI (wr_d Y X cs ad) D vwCl (jt_tys cs) l yX11_counted wsX11_counted rm_X11_counted 0 0 [.ref (ad 0), .int a1, .int a2, .int a3] g0 (fun r g2 => Post r ∧ g2 = g0) := by
  refine jj_metI (cc := cX11_counted) (nL := 4) (ret := (some .int)) (by decide) rfl (Nat.le_of_ble_eq_true rfl) [(0, .ref (ad 0)), (1, .int a1), (2, .int a2), (3, .int a3)] rfl ?_
  intro p e s m args below meth c hC hnm
  rw [vr_counted] at hV
  refine jj_aload_n (pc2 := 1) hC dX11_counted_0 rfl 0 rfl rfl ?_
  refine jj_iload_n (pc2 := 2) hC dX11_counted_1 rfl 1 rfl rfl ?_
  refine jj_iload_n (pc2 := 3) hC dX11_counted_2 rfl 2 rfl rfl ?_
  refine jj_iload_n (pc2 := 4) hC dX11_counted_3 rfl 3 rfl rfl ?_
  refine jj_cVIp (pc2 := 7) (wd := wr_d Y X cs ad) (g := g0) (rest := []) hC (Y.length + 0) (jx_at (V := wr_W cs ad g0) rfl) rfl rfl (cr_isCount l D cs Y X ad a1 a2 a3 g0 _ hV) (cwV 3 hC.1.2.2.2.2 gX11_counted_X11_isCount rfl rfl rfl (by decide +kernel) ⟨by decide, by decide⟩) rfl (Nat.le_of_ble_eq_true rfl) _ rfl dX11_counted_4 ⟨Nat.zero_le _, Nat.zero_le _⟩ rfl (fun r1 hV => ?_)
  refine jj_if_ne (pc2 := 10) hC 12 dX11_counted_7 (by decide) rfl (fun h2 => ?_) (fun h2 => ?_)
  · have hV := hV.1 h2
    refine jj_iload_n (pc2 := 13) hC dX11_counted_12 rfl 1 rfl rfl ?_
    refine jj_if_ne (pc2 := 16) hC 30 dX11_counted_13 (by decide) rfl (fun h3 => ?_) (fun h3 => ?_)
    · have hV := hV.1 h3
      refine jj_iload_n (pc2 := 31) hC dX11_counted_30 rfl 1 rfl rfl ?_
      refine jj_iconst (pc2 := 32) hC 1 dX11_counted_31 (by decide) rfl ?_
      refine jj_icmp_ne (pc2 := 35) hC 49 dX11_counted_32 (by decide) rfl (fun h4 => ?_) (fun h4 => ?_)
      · have hV := hV.1 h4
        refine jj_aload_n (pc2 := 50) hC dX11_counted_49 rfl 0 rfl rfl ?_
        refine rg_26 (pc2 := 53) hC hi_X11_counted_X11 lk_X11_counted_3 dX11_counted_50 rfl ?_
        refine jj_bipush (pc2 := 55) hC 16 dX11_counted_53 (by decide) rfl ?_
        refine jj_iload_n (pc2 := 56) hC dX11_counted_55 rfl 2 rfl rfl ?_
        refine jj_imul (pc2 := 57) hC dX11_counted_56 rfl ?_
        refine jj_iload_n (pc2 := 58) hC dX11_counted_57 rfl 3 rfl rfl ?_
        refine jj_iadd (pc2 := 59) hC dX11_counted_58 rfl ?_
        refine ra_26 (pc2 := 60) hC hV.1 dX11_counted_59 rfl ?_
        have hV := hV.2
        exact jj_iret hC dX11_counted_60 ⟨hV, rfl⟩
      · have hV := hV.2 h4
        refine jj_aload_n (pc2 := 36) hC dX11_counted_35 rfl 0 rfl rfl ?_
        refine rg_25 (pc2 := 39) hC hi_X11_counted_X11 lk_X11_counted_2 dX11_counted_36 rfl ?_
        refine jj_bipush (pc2 := 41) hC 16 dX11_counted_39 (by decide) rfl ?_
        refine jj_iload_n (pc2 := 42) hC dX11_counted_41 rfl 2 rfl rfl ?_
        refine jj_imul (pc2 := 43) hC dX11_counted_42 rfl ?_
        refine jj_iload_n (pc2 := 44) hC dX11_counted_43 rfl 3 rfl rfl ?_
        refine jj_iadd (pc2 := 45) hC dX11_counted_44 rfl ?_
        refine ra_25 (pc2 := 46) hC hV.1 dX11_counted_45 rfl ?_
        have hV := hV.2
        refine jj_goto hC 60 dX11_counted_46 (by decide) ?_
        exact jj_iret hC dX11_counted_60 ⟨hV, rfl⟩
    · have hV := hV.2 h3
      refine jj_aload_n (pc2 := 17) hC dX11_counted_16 rfl 0 rfl rfl ?_
      refine rg_24 (pc2 := 20) hC hi_X11_counted_X11 lk_X11_counted_1 dX11_counted_17 rfl ?_
      refine jj_bipush (pc2 := 22) hC 10 dX11_counted_20 (by decide) rfl ?_
      refine jj_iload_n (pc2 := 23) hC dX11_counted_22 rfl 2 rfl rfl ?_
      refine jj_imul (pc2 := 24) hC dX11_counted_23 rfl ?_
      refine jj_iload_n (pc2 := 25) hC dX11_counted_24 rfl 3 rfl rfl ?_
      refine jj_iadd (pc2 := 26) hC dX11_counted_25 rfl ?_
      refine ra_24 (pc2 := 27) hC hV.1 dX11_counted_26 rfl ?_
      have hV := hV.2
      refine jj_goto hC 60 dX11_counted_27 (by decide) ?_
      exact jj_iret hC dX11_counted_60 ⟨hV, rfl⟩
  · have hV := hV.2 h2
    refine jj_iconst (pc2 := 11) hC (-1) dX11_counted_10 (by decide) rfl ?_
    exact jj_iret hC dX11_counted_11 ⟨hV, rfl⟩
theorem hi_X11_isTied_X11 : ∀ w ∈ u_ws RX11 TX11 63, w ∈ wsX11_isTied := fun _ h => List.mem_cons_of_mem _ (List.mem_append_right _ h)
theorem lk_X11_isTied_5 : Cond.fieldLink RX11 25 "PartedHouseModel" "first" "[I" ∈ wsX11_isTied := List.mem_of_getElem? (i := 5) rfl
theorem lk_X11_isTied_2 : Cond.fieldLink RX11 16 "PartedHouseModel" "moduleOf" "[I" ∈ wsX11_isTied := List.mem_of_getElem? (i := 2) rfl
theorem lk_X11_isTied_4 : Cond.fieldLink RX11 22 "PartedHouseModel" "op" "[I" ∈ wsX11_isTied := List.mem_of_getElem? (i := 4) rfl
theorem lk_X11_isTied_3 : Cond.fieldLink RX11 19 "PartedHouseModel" "lines" "[I" ∈ wsX11_isTied := List.mem_of_getElem? (i := 3) rfl
theorem lk_X11_isTied_1 : Cond.fieldLink RX11 158 "PartedHouseModel" "routines" "I" ∈ wsX11_isTied := List.mem_of_getElem? (i := 1) rfl
abbrev rm_X11_isTied : Room := { frames := 0, cells := 0, slots := 0, locals := 0 }
def vr_isTied_33 (x1 : Int32) (x2 : Int32) (x3 : Int32) (x4 : Int32) (g0 : jm_M) (K156 : Prop) (Post : Int32 → Prop) : Nat → Int32 → Prop
  | 0, _ => False
  | f + 1, x5 => (vp_in x4 40) ∧ ((((((16 : Int32) * x4) + (g0 7 x4.toNatClampNeg)) ≤ x5) → (K156)) ∧ ((¬ (((16 : Int32) * x4) + (g0 7 x4.toNatClampNeg)) ≤ x5) → ((vp_in x5 640) ∧ (∀ y5 : Int32, y5 = g0 8 x5.toNatClampNeg → (((¬ x1 = 0) → (((¬ x1 = 1) → (((¬ x1 = 2) → (vr_isTied_33 x1 x2 x3 x4 g0 K156 Post f (x5 + 1))) ∧ ((x1 = 2) → (((¬ y5 = 3) → (vr_isTied_33 x1 x2 x3 x4 g0 K156 Post f (x5 + 1))) ∧ ((y5 = 3) → ((vp_in x5 640) ∧ (((¬ (g0 9 x5.toNatClampNeg) = x3) → (vr_isTied_33 x1 x2 x3 x4 g0 K156 Post f (x5 + 1))) ∧ (((g0 9 x5.toNatClampNeg) = x3) → (Post 1))))))))) ∧ ((x1 = 1) → (((y5 = 2) → ((vp_in x5 640) ∧ (((¬ (g0 9 x5.toNatClampNeg) = x3) → (((¬ x1 = 2) → (vr_isTied_33 x1 x2 x3 x4 g0 K156 Post f (x5 + 1))) ∧ ((x1 = 2) → (((¬ y5 = 3) → (vr_isTied_33 x1 x2 x3 x4 g0 K156 Post f (x5 + 1))) ∧ ((y5 = 3) → ((vp_in x5 640) ∧ (((¬ (g0 9 x5.toNatClampNeg) = x3) → (vr_isTied_33 x1 x2 x3 x4 g0 K156 Post f (x5 + 1))) ∧ (((g0 9 x5.toNatClampNeg) = x3) → (Post 1))))))))) ∧ (((g0 9 x5.toNatClampNeg) = x3) → (Post 1))))) ∧ ((¬ y5 = 2) → (((y5 = 7) → ((vp_in x5 640) ∧ (((¬ (g0 9 x5.toNatClampNeg) = x3) → (((¬ x1 = 2) → (vr_isTied_33 x1 x2 x3 x4 g0 K156 Post f (x5 + 1))) ∧ ((x1 = 2) → (((¬ y5 = 3) → (vr_isTied_33 x1 x2 x3 x4 g0 K156 Post f (x5 + 1))) ∧ ((y5 = 3) → ((vp_in x5 640) ∧ (((¬ (g0 9 x5.toNatClampNeg) = x3) → (vr_isTied_33 x1 x2 x3 x4 g0 K156 Post f (x5 + 1))) ∧ (((g0 9 x5.toNatClampNeg) = x3) → (Post 1))))))))) ∧ (((g0 9 x5.toNatClampNeg) = x3) → (Post 1))))) ∧ ((¬ y5 = 7) → (((¬ y5 = 8) → (((¬ x1 = 2) → (vr_isTied_33 x1 x2 x3 x4 g0 K156 Post f (x5 + 1))) ∧ ((x1 = 2) → (((¬ y5 = 3) → (vr_isTied_33 x1 x2 x3 x4 g0 K156 Post f (x5 + 1))) ∧ ((y5 = 3) → ((vp_in x5 640) ∧ (((¬ (g0 9 x5.toNatClampNeg) = x3) → (vr_isTied_33 x1 x2 x3 x4 g0 K156 Post f (x5 + 1))) ∧ (((g0 9 x5.toNatClampNeg) = x3) → (Post 1))))))))) ∧ ((y5 = 8) → ((vp_in x5 640) ∧ (((¬ (g0 9 x5.toNatClampNeg) = x3) → (((¬ x1 = 2) → (vr_isTied_33 x1 x2 x3 x4 g0 K156 Post f (x5 + 1))) ∧ ((x1 = 2) → (((¬ y5 = 3) → (vr_isTied_33 x1 x2 x3 x4 g0 K156 Post f (x5 + 1))) ∧ ((y5 = 3) → ((vp_in x5 640) ∧ (((¬ (g0 9 x5.toNatClampNeg) = x3) → (vr_isTied_33 x1 x2 x3 x4 g0 K156 Post f (x5 + 1))) ∧ (((g0 9 x5.toNatClampNeg) = x3) → (Post 1))))))))) ∧ (((g0 9 x5.toNatClampNeg) = x3) → (Post 1))))))))))))) ∧ ((x1 = 0) → (((¬ y5 = 4) → (((¬ x1 = 1) → (((¬ x1 = 2) → (vr_isTied_33 x1 x2 x3 x4 g0 K156 Post f (x5 + 1))) ∧ ((x1 = 2) → (((¬ y5 = 3) → (vr_isTied_33 x1 x2 x3 x4 g0 K156 Post f (x5 + 1))) ∧ ((y5 = 3) → ((vp_in x5 640) ∧ (((¬ (g0 9 x5.toNatClampNeg) = x3) → (vr_isTied_33 x1 x2 x3 x4 g0 K156 Post f (x5 + 1))) ∧ (((g0 9 x5.toNatClampNeg) = x3) → (Post 1))))))))) ∧ ((x1 = 1) → (((y5 = 2) → ((vp_in x5 640) ∧ (((¬ (g0 9 x5.toNatClampNeg) = x3) → (((¬ x1 = 2) → (vr_isTied_33 x1 x2 x3 x4 g0 K156 Post f (x5 + 1))) ∧ ((x1 = 2) → (((¬ y5 = 3) → (vr_isTied_33 x1 x2 x3 x4 g0 K156 Post f (x5 + 1))) ∧ ((y5 = 3) → ((vp_in x5 640) ∧ (((¬ (g0 9 x5.toNatClampNeg) = x3) → (vr_isTied_33 x1 x2 x3 x4 g0 K156 Post f (x5 + 1))) ∧ (((g0 9 x5.toNatClampNeg) = x3) → (Post 1))))))))) ∧ (((g0 9 x5.toNatClampNeg) = x3) → (Post 1))))) ∧ ((¬ y5 = 2) → (((y5 = 7) → ((vp_in x5 640) ∧ (((¬ (g0 9 x5.toNatClampNeg) = x3) → (((¬ x1 = 2) → (vr_isTied_33 x1 x2 x3 x4 g0 K156 Post f (x5 + 1))) ∧ ((x1 = 2) → (((¬ y5 = 3) → (vr_isTied_33 x1 x2 x3 x4 g0 K156 Post f (x5 + 1))) ∧ ((y5 = 3) → ((vp_in x5 640) ∧ (((¬ (g0 9 x5.toNatClampNeg) = x3) → (vr_isTied_33 x1 x2 x3 x4 g0 K156 Post f (x5 + 1))) ∧ (((g0 9 x5.toNatClampNeg) = x3) → (Post 1))))))))) ∧ (((g0 9 x5.toNatClampNeg) = x3) → (Post 1))))) ∧ ((¬ y5 = 7) → (((¬ y5 = 8) → (((¬ x1 = 2) → (vr_isTied_33 x1 x2 x3 x4 g0 K156 Post f (x5 + 1))) ∧ ((x1 = 2) → (((¬ y5 = 3) → (vr_isTied_33 x1 x2 x3 x4 g0 K156 Post f (x5 + 1))) ∧ ((y5 = 3) → ((vp_in x5 640) ∧ (((¬ (g0 9 x5.toNatClampNeg) = x3) → (vr_isTied_33 x1 x2 x3 x4 g0 K156 Post f (x5 + 1))) ∧ (((g0 9 x5.toNatClampNeg) = x3) → (Post 1))))))))) ∧ ((y5 = 8) → ((vp_in x5 640) ∧ (((¬ (g0 9 x5.toNatClampNeg) = x3) → (((¬ x1 = 2) → (vr_isTied_33 x1 x2 x3 x4 g0 K156 Post f (x5 + 1))) ∧ ((x1 = 2) → (((¬ y5 = 3) → (vr_isTied_33 x1 x2 x3 x4 g0 K156 Post f (x5 + 1))) ∧ ((y5 = 3) → ((vp_in x5 640) ∧ (((¬ (g0 9 x5.toNatClampNeg) = x3) → (vr_isTied_33 x1 x2 x3 x4 g0 K156 Post f (x5 + 1))) ∧ (((g0 9 x5.toNatClampNeg) = x3) → (Post 1))))))))) ∧ (((g0 9 x5.toNatClampNeg) = x3) → (Post 1))))))))))))) ∧ ((y5 = 4) → ((vp_in x5 640) ∧ ((vp_in (g0 9 x5.toNatClampNeg) 40) ∧ (((¬ (g0 6 (g0 9 x5.toNatClampNeg).toNatClampNeg) = x3) → (((¬ x1 = 1) → (((¬ x1 = 2) → (vr_isTied_33 x1 x2 x3 x4 g0 K156 Post f (x5 + 1))) ∧ ((x1 = 2) → (((¬ y5 = 3) → (vr_isTied_33 x1 x2 x3 x4 g0 K156 Post f (x5 + 1))) ∧ ((y5 = 3) → ((vp_in x5 640) ∧ (((¬ (g0 9 x5.toNatClampNeg) = x3) → (vr_isTied_33 x1 x2 x3 x4 g0 K156 Post f (x5 + 1))) ∧ (((g0 9 x5.toNatClampNeg) = x3) → (Post 1))))))))) ∧ ((x1 = 1) → (((y5 = 2) → ((vp_in x5 640) ∧ (((¬ (g0 9 x5.toNatClampNeg) = x3) → (((¬ x1 = 2) → (vr_isTied_33 x1 x2 x3 x4 g0 K156 Post f (x5 + 1))) ∧ ((x1 = 2) → (((¬ y5 = 3) → (vr_isTied_33 x1 x2 x3 x4 g0 K156 Post f (x5 + 1))) ∧ ((y5 = 3) → ((vp_in x5 640) ∧ (((¬ (g0 9 x5.toNatClampNeg) = x3) → (vr_isTied_33 x1 x2 x3 x4 g0 K156 Post f (x5 + 1))) ∧ (((g0 9 x5.toNatClampNeg) = x3) → (Post 1))))))))) ∧ (((g0 9 x5.toNatClampNeg) = x3) → (Post 1))))) ∧ ((¬ y5 = 2) → (((y5 = 7) → ((vp_in x5 640) ∧ (((¬ (g0 9 x5.toNatClampNeg) = x3) → (((¬ x1 = 2) → (vr_isTied_33 x1 x2 x3 x4 g0 K156 Post f (x5 + 1))) ∧ ((x1 = 2) → (((¬ y5 = 3) → (vr_isTied_33 x1 x2 x3 x4 g0 K156 Post f (x5 + 1))) ∧ ((y5 = 3) → ((vp_in x5 640) ∧ (((¬ (g0 9 x5.toNatClampNeg) = x3) → (vr_isTied_33 x1 x2 x3 x4 g0 K156 Post f (x5 + 1))) ∧ (((g0 9 x5.toNatClampNeg) = x3) → (Post 1))))))))) ∧ (((g0 9 x5.toNatClampNeg) = x3) → (Post 1))))) ∧ ((¬ y5 = 7) → (((¬ y5 = 8) → (((¬ x1 = 2) → (vr_isTied_33 x1 x2 x3 x4 g0 K156 Post f (x5 + 1))) ∧ ((x1 = 2) → (((¬ y5 = 3) → (vr_isTied_33 x1 x2 x3 x4 g0 K156 Post f (x5 + 1))) ∧ ((y5 = 3) → ((vp_in x5 640) ∧ (((¬ (g0 9 x5.toNatClampNeg) = x3) → (vr_isTied_33 x1 x2 x3 x4 g0 K156 Post f (x5 + 1))) ∧ (((g0 9 x5.toNatClampNeg) = x3) → (Post 1))))))))) ∧ ((y5 = 8) → ((vp_in x5 640) ∧ (((¬ (g0 9 x5.toNatClampNeg) = x3) → (((¬ x1 = 2) → (vr_isTied_33 x1 x2 x3 x4 g0 K156 Post f (x5 + 1))) ∧ ((x1 = 2) → (((¬ y5 = 3) → (vr_isTied_33 x1 x2 x3 x4 g0 K156 Post f (x5 + 1))) ∧ ((y5 = 3) → ((vp_in x5 640) ∧ (((¬ (g0 9 x5.toNatClampNeg) = x3) → (vr_isTied_33 x1 x2 x3 x4 g0 K156 Post f (x5 + 1))) ∧ (((g0 9 x5.toNatClampNeg) = x3) → (Post 1))))))))) ∧ (((g0 9 x5.toNatClampNeg) = x3) → (Post 1))))))))))))) ∧ (((g0 6 (g0 9 x5.toNatClampNeg).toNatClampNeg) = x3) → (Post 1)))))))))))))
def vr_isTied_3 (x1 : Int32) (x2 : Int32) (x3 : Int32) (g0 : jm_M) (Post : Int32 → Prop) : Nat → Int32 → Prop
  | 0, _ => False
  | f + 1, x4 => (((g0 5 0) ≤ x4) → (Post 0)) ∧ ((¬ (g0 5 0) ≤ x4) → ((vp_in x4 40) ∧ ((((g0 6 x4.toNatClampNeg) = x2) → (∀ y3 : Int32, y3 = (16 : Int32) * x4 → (∃ n75 : Nat, vr_isTied_33 x1 x2 x3 x4 g0 (vr_isTied_3 x1 x2 x3 g0 Post f (x4 + 1)) Post n75 y3))) ∧ ((¬ (g0 6 x4.toNatClampNeg) = x2) → (vr_isTied_3 x1 x2 x3 g0 Post f (x4 + 1))))))
def vr_isTied (a1 : Int32) (a2 : Int32) (a3 : Int32) (g0 : jm_M) (Post : Int32 → Prop) : Prop := ∃ n76 : Nat, vr_isTied_3 a1 a2 a3 g0 Post n76 0
set_option maxHeartbeats 4000000 in
set_option maxRecDepth 100000 in
theorem ar_isTied_33 {p : Program} {l : Launch} {e : Env} {s : State} {m : MethodId} {args : Array Value} {below : List Frame} {meth : Method} {c : Code} {D : va_G} {cs : Nat → ClassId} {Y X : va_W} {ad : Nat → Nat} {g0 : jm_M} (hC : JC p s m args meth c D vwCl (va_A (wr_d Y X cs ad g0) s.heap.size) 7 cX11_isTied (some .boolean) wsX11_isTied RX11 (jt_tys cs)) (x1 : Int32) (x2 : Int32) (x3 : Int32) (x4 : Int32) (Post : Int32 → Prop) (K156 : Prop) (hK156 : K156 → JJ (wr_d Y X cs ad) p l e rm_X11_isTied s m args below meth c D vwCl (va_A (wr_d Y X cs ad g0) s.heap.size) 7 0 0 (MQ below (jj_QI (wr_d Y X cs ad) D vwCl (jt_tys cs) g0 s.heap.size (fun r g2 => Post r ∧ g2 = g0)) args s 0 0 (va_A (wr_d Y X cs ad g0) s.heap.size)) 156 [(0, .ref (ad 0)), (1, .int x1), (2, .int x2), (3, .int x3), (4, .int x4)] [] g0) : ∀ (f : Nat) (x5 : Int32), vr_isTied_33 x1 x2 x3 x4 g0 K156 Post f x5 → JJ (wr_d Y X cs ad) p l e rm_X11_isTied s m args below meth c D vwCl (va_A (wr_d Y X cs ad g0) s.heap.size) 7 0 0 (MQ below (jj_QI (wr_d Y X cs ad) D vwCl (jt_tys cs) g0 s.heap.size (fun r g2 => Post r ∧ g2 = g0)) args s 0 0 (va_A (wr_d Y X cs ad g0) s.heap.size)) 33 [(0, .ref (ad 0)), (1, .int x1), (2, .int x2), (3, .int x3), (4, .int x4), (5, .int x5)] [] g0 := by
  intro f
  induction f with
  | zero => intro x5 hV; exact hV.elim
  | succ f ih =>
    intro x5 hV
    rw [vr_isTied_33] at hV
    refine jj_iload (pc2 := 35) hC dX11_isTied_33 5 rfl rfl ?_
    refine jj_bipush (pc2 := 37) hC 16 dX11_isTied_35 (by decide) rfl ?_
    refine jj_iload (pc2 := 39) hC dX11_isTied_37 4 rfl rfl ?_
    refine jj_imul (pc2 := 40) hC dX11_isTied_39 rfl ?_
    refine jj_aload_n (pc2 := 41) hC dX11_isTied_40 rfl 0 rfl rfl ?_
    refine rg_7 (pc2 := 44) hC hi_X11_isTied_X11 lk_X11_isTied_3 dX11_isTied_41 rfl ?_
    refine jj_iload (pc2 := 46) hC dX11_isTied_44 4 rfl rfl ?_
    refine ra_7 (pc2 := 47) hC hV.1 dX11_isTied_46 rfl ?_
    have hV := hV.2
    refine jj_iadd (pc2 := 48) hC dX11_isTied_47 rfl ?_
    refine jj_icmp_ge (pc2 := 51) hC 156 dX11_isTied_48 (by decide) rfl (fun h4 => ?_) (fun h4 => ?_)
    · have hV := hV.1 h4
      exact jj_sub (lv2 := [(0, .ref (ad 0)), (1, .int x1), (2, .int x2), (3, .int x3), (4, .int x4)]) [0, 1, 2, 3, 4] rfl (hK156  hV)
    · have hV := hV.2 h4
      refine jj_aload_n (pc2 := 52) hC dX11_isTied_51 rfl 0 rfl rfl ?_
      refine rg_8 (pc2 := 55) hC hi_X11_isTied_X11 lk_X11_isTied_4 dX11_isTied_52 rfl ?_
      refine jj_iload (pc2 := 57) hC dX11_isTied_55 5 rfl rfl ?_
      refine ra_8 (pc2 := 58) hC hV.1 dX11_isTied_57 rfl ?_
      have hV := hV.2
      refine jj_topi (fun y5 ey5 => ?_)
      have hV := hV y5 ey5
      refine jj_istore (pc2 := 60) hC [(6, .int y5), (0, .ref (ad 0)), (1, .int x1), (2, .int x2), (3, .int x3), (4, .int x4), (5, .int x5)] dX11_isTied_58 (by decide) rfl rfl ?_
      refine jj_iload_n (pc2 := 61) hC dX11_isTied_60 rfl 2 rfl rfl ?_
      refine jj_if_ne (pc2 := 64) hC 88 dX11_isTied_61 (by decide) rfl (fun h6 => ?_) (fun h6 => ?_)
      · have hV := hV.1 h6
        refine jj_iload_n (pc2 := 89) hC dX11_isTied_88 rfl 2 rfl rfl ?_
        refine jj_iconst (pc2 := 90) hC 1 dX11_isTied_89 (by decide) rfl ?_
        refine jj_icmp_ne (pc2 := 93) hC 126 dX11_isTied_90 (by decide) rfl (fun h7 => ?_) (fun h7 => ?_)
        · have hV := hV.1 h7
          refine jj_iload_n (pc2 := 127) hC dX11_isTied_126 rfl 2 rfl rfl ?_
          refine jj_iconst (pc2 := 128) hC 2 dX11_isTied_127 (by decide) rfl ?_
          refine jj_icmp_ne (pc2 := 131) hC 150 dX11_isTied_128 (by decide) rfl (fun h8 => ?_) (fun h8 => ?_)
          · have hV := hV.1 h8
            refine jj_iinc (pc2 := 153) hC (x5 + 1) [(5, .int (x5 + 1)), (6, .int y5), (0, .ref (ad 0)), (1, .int x1), (2, .int x2), (3, .int x3), (4, .int x4)] dX11_isTied_150 6 rfl rfl (by decide) rfl rfl ?_
            refine jj_goto hC 33 dX11_isTied_153 (by decide) ?_
            exact jj_sub (lv2 := [(0, .ref (ad 0)), (1, .int x1), (2, .int x2), (3, .int x3), (4, .int x4), (5, .int (x5 + 1))]) [2, 3, 4, 5, 6, 0] rfl (ih (x5 + 1) hV)
          · have hV := hV.2 h8
            refine jj_iload (pc2 := 133) hC dX11_isTied_131 0 rfl rfl ?_
            refine jj_iconst (pc2 := 134) hC 3 dX11_isTied_133 (by decide) rfl ?_
            refine jj_icmp_ne (pc2 := 137) hC 150 dX11_isTied_134 (by decide) rfl (fun h9 => ?_) (fun h9 => ?_)
            · have hV := hV.1 h9
              refine jj_iinc (pc2 := 153) hC (x5 + 1) [(5, .int (x5 + 1)), (6, .int y5), (0, .ref (ad 0)), (1, .int x1), (2, .int x2), (3, .int x3), (4, .int x4)] dX11_isTied_150 6 rfl rfl (by decide) rfl rfl ?_
              refine jj_goto hC 33 dX11_isTied_153 (by decide) ?_
              exact jj_sub (lv2 := [(0, .ref (ad 0)), (1, .int x1), (2, .int x2), (3, .int x3), (4, .int x4), (5, .int (x5 + 1))]) [2, 3, 4, 5, 6, 0] rfl (ih (x5 + 1) hV)
            · have hV := hV.2 h9
              refine jj_aload_n (pc2 := 138) hC dX11_isTied_137 rfl 1 rfl rfl ?_
              refine rg_9 (pc2 := 141) hC hi_X11_isTied_X11 lk_X11_isTied_5 dX11_isTied_138 rfl ?_
              refine jj_iload (pc2 := 143) hC dX11_isTied_141 6 rfl rfl ?_
              refine ra_9 (pc2 := 144) hC hV.1 dX11_isTied_143 rfl ?_
              have hV := hV.2
              refine jj_iload_n (pc2 := 145) hC dX11_isTied_144 rfl 4 rfl rfl ?_
              refine jj_icmp_ne (pc2 := 148) hC 150 dX11_isTied_145 (by decide) rfl (fun h10 => ?_) (fun h10 => ?_)
              · have hV := hV.1 h10
                refine jj_iinc (pc2 := 153) hC (x5 + 1) [(5, .int (x5 + 1)), (6, .int y5), (0, .ref (ad 0)), (1, .int x1), (2, .int x2), (3, .int x3), (4, .int x4)] dX11_isTied_150 6 rfl rfl (by decide) rfl rfl ?_
                refine jj_goto hC 33 dX11_isTied_153 (by decide) ?_
                exact jj_sub (lv2 := [(0, .ref (ad 0)), (1, .int x1), (2, .int x2), (3, .int x3), (4, .int x4), (5, .int (x5 + 1))]) [2, 3, 4, 5, 6, 0] rfl (ih (x5 + 1) hV)
              · have hV := hV.2 h10
                refine jj_iconst (pc2 := 149) hC 1 dX11_isTied_148 (by decide) rfl ?_
                exact jj_zret hC jj_nb1 dX11_isTied_149 ⟨hV, rfl⟩
        · have hV := hV.2 h7
          refine jj_iload (pc2 := 95) hC dX11_isTied_93 0 rfl rfl ?_
          refine jj_iconst (pc2 := 96) hC 2 dX11_isTied_95 (by decide) rfl ?_
          refine jj_icmp_eq (pc2 := 99) hC 113 dX11_isTied_96 (by decide) rfl (fun h11 => ?_) (fun h11 => ?_)
          · have hV := hV.1 h11
            refine jj_aload_n (pc2 := 114) hC dX11_isTied_113 rfl 1 rfl rfl ?_
            refine rg_9 (pc2 := 117) hC hi_X11_isTied_X11 lk_X11_isTied_5 dX11_isTied_114 rfl ?_
            refine jj_iload (pc2 := 119) hC dX11_isTied_117 6 rfl rfl ?_
            refine ra_9 (pc2 := 120) hC hV.1 dX11_isTied_119 rfl ?_
            have hV := hV.2
            refine jj_iload_n (pc2 := 121) hC dX11_isTied_120 rfl 4 rfl rfl ?_
            refine jj_icmp_ne (pc2 := 124) hC 126 dX11_isTied_121 (by decide) rfl (fun h12 => ?_) (fun h12 => ?_)
            · have hV := hV.1 h12
              refine jj_iload_n (pc2 := 127) hC dX11_isTied_126 rfl 2 rfl rfl ?_
              refine jj_iconst (pc2 := 128) hC 2 dX11_isTied_127 (by decide) rfl ?_
              refine jj_icmp_ne (pc2 := 131) hC 150 dX11_isTied_128 (by decide) rfl (fun h13 => ?_) (fun h13 => ?_)
              · have hV := hV.1 h13
                refine jj_iinc (pc2 := 153) hC (x5 + 1) [(5, .int (x5 + 1)), (6, .int y5), (0, .ref (ad 0)), (1, .int x1), (2, .int x2), (3, .int x3), (4, .int x4)] dX11_isTied_150 6 rfl rfl (by decide) rfl rfl ?_
                refine jj_goto hC 33 dX11_isTied_153 (by decide) ?_
                exact jj_sub (lv2 := [(0, .ref (ad 0)), (1, .int x1), (2, .int x2), (3, .int x3), (4, .int x4), (5, .int (x5 + 1))]) [2, 3, 4, 5, 6, 0] rfl (ih (x5 + 1) hV)
              · have hV := hV.2 h13
                refine jj_iload (pc2 := 133) hC dX11_isTied_131 0 rfl rfl ?_
                refine jj_iconst (pc2 := 134) hC 3 dX11_isTied_133 (by decide) rfl ?_
                refine jj_icmp_ne (pc2 := 137) hC 150 dX11_isTied_134 (by decide) rfl (fun h14 => ?_) (fun h14 => ?_)
                · have hV := hV.1 h14
                  refine jj_iinc (pc2 := 153) hC (x5 + 1) [(5, .int (x5 + 1)), (6, .int y5), (0, .ref (ad 0)), (1, .int x1), (2, .int x2), (3, .int x3), (4, .int x4)] dX11_isTied_150 6 rfl rfl (by decide) rfl rfl ?_
                  refine jj_goto hC 33 dX11_isTied_153 (by decide) ?_
                  exact jj_sub (lv2 := [(0, .ref (ad 0)), (1, .int x1), (2, .int x2), (3, .int x3), (4, .int x4), (5, .int (x5 + 1))]) [2, 3, 4, 5, 6, 0] rfl (ih (x5 + 1) hV)
                · have hV := hV.2 h14
                  refine jj_aload_n (pc2 := 138) hC dX11_isTied_137 rfl 1 rfl rfl ?_
                  refine rg_9 (pc2 := 141) hC hi_X11_isTied_X11 lk_X11_isTied_5 dX11_isTied_138 rfl ?_
                  refine jj_iload (pc2 := 143) hC dX11_isTied_141 6 rfl rfl ?_
                  refine ra_9 (pc2 := 144) hC hV.1 dX11_isTied_143 rfl ?_
                  have hV := hV.2
                  refine jj_iload_n (pc2 := 145) hC dX11_isTied_144 rfl 4 rfl rfl ?_
                  refine jj_icmp_ne (pc2 := 148) hC 150 dX11_isTied_145 (by decide) rfl (fun h15 => ?_) (fun h15 => ?_)
                  · have hV := hV.1 h15
                    refine jj_iinc (pc2 := 153) hC (x5 + 1) [(5, .int (x5 + 1)), (6, .int y5), (0, .ref (ad 0)), (1, .int x1), (2, .int x2), (3, .int x3), (4, .int x4)] dX11_isTied_150 6 rfl rfl (by decide) rfl rfl ?_
                    refine jj_goto hC 33 dX11_isTied_153 (by decide) ?_
                    exact jj_sub (lv2 := [(0, .ref (ad 0)), (1, .int x1), (2, .int x2), (3, .int x3), (4, .int x4), (5, .int (x5 + 1))]) [2, 3, 4, 5, 6, 0] rfl (ih (x5 + 1) hV)
                  · have hV := hV.2 h15
                    refine jj_iconst (pc2 := 149) hC 1 dX11_isTied_148 (by decide) rfl ?_
                    exact jj_zret hC jj_nb1 dX11_isTied_149 ⟨hV, rfl⟩
            · have hV := hV.2 h12
              refine jj_iconst (pc2 := 125) hC 1 dX11_isTied_124 (by decide) rfl ?_
              exact jj_zret hC jj_nb1 dX11_isTied_125 ⟨hV, rfl⟩
          · have hV := hV.2 h11
            refine jj_iload (pc2 := 101) hC dX11_isTied_99 0 rfl rfl ?_
            refine jj_bipush (pc2 := 103) hC 7 dX11_isTied_101 (by decide) rfl ?_
            refine jj_icmp_eq (pc2 := 106) hC 113 dX11_isTied_103 (by decide) rfl (fun h16 => ?_) (fun h16 => ?_)
            · have hV := hV.1 h16
              refine jj_aload_n (pc2 := 114) hC dX11_isTied_113 rfl 1 rfl rfl ?_
              refine rg_9 (pc2 := 117) hC hi_X11_isTied_X11 lk_X11_isTied_5 dX11_isTied_114 rfl ?_
              refine jj_iload (pc2 := 119) hC dX11_isTied_117 6 rfl rfl ?_
              refine ra_9 (pc2 := 120) hC hV.1 dX11_isTied_119 rfl ?_
              have hV := hV.2
              refine jj_iload_n (pc2 := 121) hC dX11_isTied_120 rfl 4 rfl rfl ?_
              refine jj_icmp_ne (pc2 := 124) hC 126 dX11_isTied_121 (by decide) rfl (fun h17 => ?_) (fun h17 => ?_)
              · have hV := hV.1 h17
                refine jj_iload_n (pc2 := 127) hC dX11_isTied_126 rfl 2 rfl rfl ?_
                refine jj_iconst (pc2 := 128) hC 2 dX11_isTied_127 (by decide) rfl ?_
                refine jj_icmp_ne (pc2 := 131) hC 150 dX11_isTied_128 (by decide) rfl (fun h18 => ?_) (fun h18 => ?_)
                · have hV := hV.1 h18
                  refine jj_iinc (pc2 := 153) hC (x5 + 1) [(5, .int (x5 + 1)), (6, .int y5), (0, .ref (ad 0)), (1, .int x1), (2, .int x2), (3, .int x3), (4, .int x4)] dX11_isTied_150 6 rfl rfl (by decide) rfl rfl ?_
                  refine jj_goto hC 33 dX11_isTied_153 (by decide) ?_
                  exact jj_sub (lv2 := [(0, .ref (ad 0)), (1, .int x1), (2, .int x2), (3, .int x3), (4, .int x4), (5, .int (x5 + 1))]) [2, 3, 4, 5, 6, 0] rfl (ih (x5 + 1) hV)
                · have hV := hV.2 h18
                  refine jj_iload (pc2 := 133) hC dX11_isTied_131 0 rfl rfl ?_
                  refine jj_iconst (pc2 := 134) hC 3 dX11_isTied_133 (by decide) rfl ?_
                  refine jj_icmp_ne (pc2 := 137) hC 150 dX11_isTied_134 (by decide) rfl (fun h19 => ?_) (fun h19 => ?_)
                  · have hV := hV.1 h19
                    refine jj_iinc (pc2 := 153) hC (x5 + 1) [(5, .int (x5 + 1)), (6, .int y5), (0, .ref (ad 0)), (1, .int x1), (2, .int x2), (3, .int x3), (4, .int x4)] dX11_isTied_150 6 rfl rfl (by decide) rfl rfl ?_
                    refine jj_goto hC 33 dX11_isTied_153 (by decide) ?_
                    exact jj_sub (lv2 := [(0, .ref (ad 0)), (1, .int x1), (2, .int x2), (3, .int x3), (4, .int x4), (5, .int (x5 + 1))]) [2, 3, 4, 5, 6, 0] rfl (ih (x5 + 1) hV)
                  · have hV := hV.2 h19
                    refine jj_aload_n (pc2 := 138) hC dX11_isTied_137 rfl 1 rfl rfl ?_
                    refine rg_9 (pc2 := 141) hC hi_X11_isTied_X11 lk_X11_isTied_5 dX11_isTied_138 rfl ?_
                    refine jj_iload (pc2 := 143) hC dX11_isTied_141 6 rfl rfl ?_
                    refine ra_9 (pc2 := 144) hC hV.1 dX11_isTied_143 rfl ?_
                    have hV := hV.2
                    refine jj_iload_n (pc2 := 145) hC dX11_isTied_144 rfl 4 rfl rfl ?_
                    refine jj_icmp_ne (pc2 := 148) hC 150 dX11_isTied_145 (by decide) rfl (fun h20 => ?_) (fun h20 => ?_)
                    · have hV := hV.1 h20
                      refine jj_iinc (pc2 := 153) hC (x5 + 1) [(5, .int (x5 + 1)), (6, .int y5), (0, .ref (ad 0)), (1, .int x1), (2, .int x2), (3, .int x3), (4, .int x4)] dX11_isTied_150 6 rfl rfl (by decide) rfl rfl ?_
                      refine jj_goto hC 33 dX11_isTied_153 (by decide) ?_
                      exact jj_sub (lv2 := [(0, .ref (ad 0)), (1, .int x1), (2, .int x2), (3, .int x3), (4, .int x4), (5, .int (x5 + 1))]) [2, 3, 4, 5, 6, 0] rfl (ih (x5 + 1) hV)
                    · have hV := hV.2 h20
                      refine jj_iconst (pc2 := 149) hC 1 dX11_isTied_148 (by decide) rfl ?_
                      exact jj_zret hC jj_nb1 dX11_isTied_149 ⟨hV, rfl⟩
              · have hV := hV.2 h17
                refine jj_iconst (pc2 := 125) hC 1 dX11_isTied_124 (by decide) rfl ?_
                exact jj_zret hC jj_nb1 dX11_isTied_125 ⟨hV, rfl⟩
            · have hV := hV.2 h16
              refine jj_iload (pc2 := 108) hC dX11_isTied_106 0 rfl rfl ?_
              refine jj_bipush (pc2 := 110) hC 8 dX11_isTied_108 (by decide) rfl ?_
              refine jj_icmp_ne (pc2 := 113) hC 126 dX11_isTied_110 (by decide) rfl (fun h21 => ?_) (fun h21 => ?_)
              · have hV := hV.1 h21
                refine jj_iload_n (pc2 := 127) hC dX11_isTied_126 rfl 2 rfl rfl ?_
                refine jj_iconst (pc2 := 128) hC 2 dX11_isTied_127 (by decide) rfl ?_
                refine jj_icmp_ne (pc2 := 131) hC 150 dX11_isTied_128 (by decide) rfl (fun h22 => ?_) (fun h22 => ?_)
                · have hV := hV.1 h22
                  refine jj_iinc (pc2 := 153) hC (x5 + 1) [(5, .int (x5 + 1)), (6, .int y5), (0, .ref (ad 0)), (1, .int x1), (2, .int x2), (3, .int x3), (4, .int x4)] dX11_isTied_150 6 rfl rfl (by decide) rfl rfl ?_
                  refine jj_goto hC 33 dX11_isTied_153 (by decide) ?_
                  exact jj_sub (lv2 := [(0, .ref (ad 0)), (1, .int x1), (2, .int x2), (3, .int x3), (4, .int x4), (5, .int (x5 + 1))]) [2, 3, 4, 5, 6, 0] rfl (ih (x5 + 1) hV)
                · have hV := hV.2 h22
                  refine jj_iload (pc2 := 133) hC dX11_isTied_131 0 rfl rfl ?_
                  refine jj_iconst (pc2 := 134) hC 3 dX11_isTied_133 (by decide) rfl ?_
                  refine jj_icmp_ne (pc2 := 137) hC 150 dX11_isTied_134 (by decide) rfl (fun h23 => ?_) (fun h23 => ?_)
                  · have hV := hV.1 h23
                    refine jj_iinc (pc2 := 153) hC (x5 + 1) [(5, .int (x5 + 1)), (6, .int y5), (0, .ref (ad 0)), (1, .int x1), (2, .int x2), (3, .int x3), (4, .int x4)] dX11_isTied_150 6 rfl rfl (by decide) rfl rfl ?_
                    refine jj_goto hC 33 dX11_isTied_153 (by decide) ?_
                    exact jj_sub (lv2 := [(0, .ref (ad 0)), (1, .int x1), (2, .int x2), (3, .int x3), (4, .int x4), (5, .int (x5 + 1))]) [2, 3, 4, 5, 6, 0] rfl (ih (x5 + 1) hV)
                  · have hV := hV.2 h23
                    refine jj_aload_n (pc2 := 138) hC dX11_isTied_137 rfl 1 rfl rfl ?_
                    refine rg_9 (pc2 := 141) hC hi_X11_isTied_X11 lk_X11_isTied_5 dX11_isTied_138 rfl ?_
                    refine jj_iload (pc2 := 143) hC dX11_isTied_141 6 rfl rfl ?_
                    refine ra_9 (pc2 := 144) hC hV.1 dX11_isTied_143 rfl ?_
                    have hV := hV.2
                    refine jj_iload_n (pc2 := 145) hC dX11_isTied_144 rfl 4 rfl rfl ?_
                    refine jj_icmp_ne (pc2 := 148) hC 150 dX11_isTied_145 (by decide) rfl (fun h24 => ?_) (fun h24 => ?_)
                    · have hV := hV.1 h24
                      refine jj_iinc (pc2 := 153) hC (x5 + 1) [(5, .int (x5 + 1)), (6, .int y5), (0, .ref (ad 0)), (1, .int x1), (2, .int x2), (3, .int x3), (4, .int x4)] dX11_isTied_150 6 rfl rfl (by decide) rfl rfl ?_
                      refine jj_goto hC 33 dX11_isTied_153 (by decide) ?_
                      exact jj_sub (lv2 := [(0, .ref (ad 0)), (1, .int x1), (2, .int x2), (3, .int x3), (4, .int x4), (5, .int (x5 + 1))]) [2, 3, 4, 5, 6, 0] rfl (ih (x5 + 1) hV)
                    · have hV := hV.2 h24
                      refine jj_iconst (pc2 := 149) hC 1 dX11_isTied_148 (by decide) rfl ?_
                      exact jj_zret hC jj_nb1 dX11_isTied_149 ⟨hV, rfl⟩
              · have hV := hV.2 h21
                refine jj_aload_n (pc2 := 114) hC dX11_isTied_113 rfl 1 rfl rfl ?_
                refine rg_9 (pc2 := 117) hC hi_X11_isTied_X11 lk_X11_isTied_5 dX11_isTied_114 rfl ?_
                refine jj_iload (pc2 := 119) hC dX11_isTied_117 6 rfl rfl ?_
                refine ra_9 (pc2 := 120) hC hV.1 dX11_isTied_119 rfl ?_
                have hV := hV.2
                refine jj_iload_n (pc2 := 121) hC dX11_isTied_120 rfl 4 rfl rfl ?_
                refine jj_icmp_ne (pc2 := 124) hC 126 dX11_isTied_121 (by decide) rfl (fun h25 => ?_) (fun h25 => ?_)
                · have hV := hV.1 h25
                  refine jj_iload_n (pc2 := 127) hC dX11_isTied_126 rfl 2 rfl rfl ?_
                  refine jj_iconst (pc2 := 128) hC 2 dX11_isTied_127 (by decide) rfl ?_
                  refine jj_icmp_ne (pc2 := 131) hC 150 dX11_isTied_128 (by decide) rfl (fun h26 => ?_) (fun h26 => ?_)
                  · have hV := hV.1 h26
                    refine jj_iinc (pc2 := 153) hC (x5 + 1) [(5, .int (x5 + 1)), (6, .int y5), (0, .ref (ad 0)), (1, .int x1), (2, .int x2), (3, .int x3), (4, .int x4)] dX11_isTied_150 6 rfl rfl (by decide) rfl rfl ?_
                    refine jj_goto hC 33 dX11_isTied_153 (by decide) ?_
                    exact jj_sub (lv2 := [(0, .ref (ad 0)), (1, .int x1), (2, .int x2), (3, .int x3), (4, .int x4), (5, .int (x5 + 1))]) [2, 3, 4, 5, 6, 0] rfl (ih (x5 + 1) hV)
                  · have hV := hV.2 h26
                    refine jj_iload (pc2 := 133) hC dX11_isTied_131 0 rfl rfl ?_
                    refine jj_iconst (pc2 := 134) hC 3 dX11_isTied_133 (by decide) rfl ?_
                    refine jj_icmp_ne (pc2 := 137) hC 150 dX11_isTied_134 (by decide) rfl (fun h27 => ?_) (fun h27 => ?_)
                    · have hV := hV.1 h27
                      refine jj_iinc (pc2 := 153) hC (x5 + 1) [(5, .int (x5 + 1)), (6, .int y5), (0, .ref (ad 0)), (1, .int x1), (2, .int x2), (3, .int x3), (4, .int x4)] dX11_isTied_150 6 rfl rfl (by decide) rfl rfl ?_
                      refine jj_goto hC 33 dX11_isTied_153 (by decide) ?_
                      exact jj_sub (lv2 := [(0, .ref (ad 0)), (1, .int x1), (2, .int x2), (3, .int x3), (4, .int x4), (5, .int (x5 + 1))]) [2, 3, 4, 5, 6, 0] rfl (ih (x5 + 1) hV)
                    · have hV := hV.2 h27
                      refine jj_aload_n (pc2 := 138) hC dX11_isTied_137 rfl 1 rfl rfl ?_
                      refine rg_9 (pc2 := 141) hC hi_X11_isTied_X11 lk_X11_isTied_5 dX11_isTied_138 rfl ?_
                      refine jj_iload (pc2 := 143) hC dX11_isTied_141 6 rfl rfl ?_
                      refine ra_9 (pc2 := 144) hC hV.1 dX11_isTied_143 rfl ?_
                      have hV := hV.2
                      refine jj_iload_n (pc2 := 145) hC dX11_isTied_144 rfl 4 rfl rfl ?_
                      refine jj_icmp_ne (pc2 := 148) hC 150 dX11_isTied_145 (by decide) rfl (fun h28 => ?_) (fun h28 => ?_)
                      · have hV := hV.1 h28
                        refine jj_iinc (pc2 := 153) hC (x5 + 1) [(5, .int (x5 + 1)), (6, .int y5), (0, .ref (ad 0)), (1, .int x1), (2, .int x2), (3, .int x3), (4, .int x4)] dX11_isTied_150 6 rfl rfl (by decide) rfl rfl ?_
                        refine jj_goto hC 33 dX11_isTied_153 (by decide) ?_
                        exact jj_sub (lv2 := [(0, .ref (ad 0)), (1, .int x1), (2, .int x2), (3, .int x3), (4, .int x4), (5, .int (x5 + 1))]) [2, 3, 4, 5, 6, 0] rfl (ih (x5 + 1) hV)
                      · have hV := hV.2 h28
                        refine jj_iconst (pc2 := 149) hC 1 dX11_isTied_148 (by decide) rfl ?_
                        exact jj_zret hC jj_nb1 dX11_isTied_149 ⟨hV, rfl⟩
                · have hV := hV.2 h25
                  refine jj_iconst (pc2 := 125) hC 1 dX11_isTied_124 (by decide) rfl ?_
                  exact jj_zret hC jj_nb1 dX11_isTied_125 ⟨hV, rfl⟩
      · have hV := hV.2 h6
        refine jj_iload (pc2 := 66) hC dX11_isTied_64 0 rfl rfl ?_
        refine jj_iconst (pc2 := 67) hC 4 dX11_isTied_66 (by decide) rfl ?_
        refine jj_icmp_ne (pc2 := 70) hC 88 dX11_isTied_67 (by decide) rfl (fun h29 => ?_) (fun h29 => ?_)
        · have hV := hV.1 h29
          refine jj_iload_n (pc2 := 89) hC dX11_isTied_88 rfl 2 rfl rfl ?_
          refine jj_iconst (pc2 := 90) hC 1 dX11_isTied_89 (by decide) rfl ?_
          refine jj_icmp_ne (pc2 := 93) hC 126 dX11_isTied_90 (by decide) rfl (fun h30 => ?_) (fun h30 => ?_)
          · have hV := hV.1 h30
            refine jj_iload_n (pc2 := 127) hC dX11_isTied_126 rfl 2 rfl rfl ?_
            refine jj_iconst (pc2 := 128) hC 2 dX11_isTied_127 (by decide) rfl ?_
            refine jj_icmp_ne (pc2 := 131) hC 150 dX11_isTied_128 (by decide) rfl (fun h31 => ?_) (fun h31 => ?_)
            · have hV := hV.1 h31
              refine jj_iinc (pc2 := 153) hC (x5 + 1) [(5, .int (x5 + 1)), (6, .int y5), (0, .ref (ad 0)), (1, .int x1), (2, .int x2), (3, .int x3), (4, .int x4)] dX11_isTied_150 6 rfl rfl (by decide) rfl rfl ?_
              refine jj_goto hC 33 dX11_isTied_153 (by decide) ?_
              exact jj_sub (lv2 := [(0, .ref (ad 0)), (1, .int x1), (2, .int x2), (3, .int x3), (4, .int x4), (5, .int (x5 + 1))]) [2, 3, 4, 5, 6, 0] rfl (ih (x5 + 1) hV)
            · have hV := hV.2 h31
              refine jj_iload (pc2 := 133) hC dX11_isTied_131 0 rfl rfl ?_
              refine jj_iconst (pc2 := 134) hC 3 dX11_isTied_133 (by decide) rfl ?_
              refine jj_icmp_ne (pc2 := 137) hC 150 dX11_isTied_134 (by decide) rfl (fun h32 => ?_) (fun h32 => ?_)
              · have hV := hV.1 h32
                refine jj_iinc (pc2 := 153) hC (x5 + 1) [(5, .int (x5 + 1)), (6, .int y5), (0, .ref (ad 0)), (1, .int x1), (2, .int x2), (3, .int x3), (4, .int x4)] dX11_isTied_150 6 rfl rfl (by decide) rfl rfl ?_
                refine jj_goto hC 33 dX11_isTied_153 (by decide) ?_
                exact jj_sub (lv2 := [(0, .ref (ad 0)), (1, .int x1), (2, .int x2), (3, .int x3), (4, .int x4), (5, .int (x5 + 1))]) [2, 3, 4, 5, 6, 0] rfl (ih (x5 + 1) hV)
              · have hV := hV.2 h32
                refine jj_aload_n (pc2 := 138) hC dX11_isTied_137 rfl 1 rfl rfl ?_
                refine rg_9 (pc2 := 141) hC hi_X11_isTied_X11 lk_X11_isTied_5 dX11_isTied_138 rfl ?_
                refine jj_iload (pc2 := 143) hC dX11_isTied_141 6 rfl rfl ?_
                refine ra_9 (pc2 := 144) hC hV.1 dX11_isTied_143 rfl ?_
                have hV := hV.2
                refine jj_iload_n (pc2 := 145) hC dX11_isTied_144 rfl 4 rfl rfl ?_
                refine jj_icmp_ne (pc2 := 148) hC 150 dX11_isTied_145 (by decide) rfl (fun h33 => ?_) (fun h33 => ?_)
                · have hV := hV.1 h33
                  refine jj_iinc (pc2 := 153) hC (x5 + 1) [(5, .int (x5 + 1)), (6, .int y5), (0, .ref (ad 0)), (1, .int x1), (2, .int x2), (3, .int x3), (4, .int x4)] dX11_isTied_150 6 rfl rfl (by decide) rfl rfl ?_
                  refine jj_goto hC 33 dX11_isTied_153 (by decide) ?_
                  exact jj_sub (lv2 := [(0, .ref (ad 0)), (1, .int x1), (2, .int x2), (3, .int x3), (4, .int x4), (5, .int (x5 + 1))]) [2, 3, 4, 5, 6, 0] rfl (ih (x5 + 1) hV)
                · have hV := hV.2 h33
                  refine jj_iconst (pc2 := 149) hC 1 dX11_isTied_148 (by decide) rfl ?_
                  exact jj_zret hC jj_nb1 dX11_isTied_149 ⟨hV, rfl⟩
          · have hV := hV.2 h30
            refine jj_iload (pc2 := 95) hC dX11_isTied_93 0 rfl rfl ?_
            refine jj_iconst (pc2 := 96) hC 2 dX11_isTied_95 (by decide) rfl ?_
            refine jj_icmp_eq (pc2 := 99) hC 113 dX11_isTied_96 (by decide) rfl (fun h34 => ?_) (fun h34 => ?_)
            · have hV := hV.1 h34
              refine jj_aload_n (pc2 := 114) hC dX11_isTied_113 rfl 1 rfl rfl ?_
              refine rg_9 (pc2 := 117) hC hi_X11_isTied_X11 lk_X11_isTied_5 dX11_isTied_114 rfl ?_
              refine jj_iload (pc2 := 119) hC dX11_isTied_117 6 rfl rfl ?_
              refine ra_9 (pc2 := 120) hC hV.1 dX11_isTied_119 rfl ?_
              have hV := hV.2
              refine jj_iload_n (pc2 := 121) hC dX11_isTied_120 rfl 4 rfl rfl ?_
              refine jj_icmp_ne (pc2 := 124) hC 126 dX11_isTied_121 (by decide) rfl (fun h35 => ?_) (fun h35 => ?_)
              · have hV := hV.1 h35
                refine jj_iload_n (pc2 := 127) hC dX11_isTied_126 rfl 2 rfl rfl ?_
                refine jj_iconst (pc2 := 128) hC 2 dX11_isTied_127 (by decide) rfl ?_
                refine jj_icmp_ne (pc2 := 131) hC 150 dX11_isTied_128 (by decide) rfl (fun h36 => ?_) (fun h36 => ?_)
                · have hV := hV.1 h36
                  refine jj_iinc (pc2 := 153) hC (x5 + 1) [(5, .int (x5 + 1)), (6, .int y5), (0, .ref (ad 0)), (1, .int x1), (2, .int x2), (3, .int x3), (4, .int x4)] dX11_isTied_150 6 rfl rfl (by decide) rfl rfl ?_
                  refine jj_goto hC 33 dX11_isTied_153 (by decide) ?_
                  exact jj_sub (lv2 := [(0, .ref (ad 0)), (1, .int x1), (2, .int x2), (3, .int x3), (4, .int x4), (5, .int (x5 + 1))]) [2, 3, 4, 5, 6, 0] rfl (ih (x5 + 1) hV)
                · have hV := hV.2 h36
                  refine jj_iload (pc2 := 133) hC dX11_isTied_131 0 rfl rfl ?_
                  refine jj_iconst (pc2 := 134) hC 3 dX11_isTied_133 (by decide) rfl ?_
                  refine jj_icmp_ne (pc2 := 137) hC 150 dX11_isTied_134 (by decide) rfl (fun h37 => ?_) (fun h37 => ?_)
                  · have hV := hV.1 h37
                    refine jj_iinc (pc2 := 153) hC (x5 + 1) [(5, .int (x5 + 1)), (6, .int y5), (0, .ref (ad 0)), (1, .int x1), (2, .int x2), (3, .int x3), (4, .int x4)] dX11_isTied_150 6 rfl rfl (by decide) rfl rfl ?_
                    refine jj_goto hC 33 dX11_isTied_153 (by decide) ?_
                    exact jj_sub (lv2 := [(0, .ref (ad 0)), (1, .int x1), (2, .int x2), (3, .int x3), (4, .int x4), (5, .int (x5 + 1))]) [2, 3, 4, 5, 6, 0] rfl (ih (x5 + 1) hV)
                  · have hV := hV.2 h37
                    refine jj_aload_n (pc2 := 138) hC dX11_isTied_137 rfl 1 rfl rfl ?_
                    refine rg_9 (pc2 := 141) hC hi_X11_isTied_X11 lk_X11_isTied_5 dX11_isTied_138 rfl ?_
                    refine jj_iload (pc2 := 143) hC dX11_isTied_141 6 rfl rfl ?_
                    refine ra_9 (pc2 := 144) hC hV.1 dX11_isTied_143 rfl ?_
                    have hV := hV.2
                    refine jj_iload_n (pc2 := 145) hC dX11_isTied_144 rfl 4 rfl rfl ?_
                    refine jj_icmp_ne (pc2 := 148) hC 150 dX11_isTied_145 (by decide) rfl (fun h38 => ?_) (fun h38 => ?_)
                    · have hV := hV.1 h38
                      refine jj_iinc (pc2 := 153) hC (x5 + 1) [(5, .int (x5 + 1)), (6, .int y5), (0, .ref (ad 0)), (1, .int x1), (2, .int x2), (3, .int x3), (4, .int x4)] dX11_isTied_150 6 rfl rfl (by decide) rfl rfl ?_
                      refine jj_goto hC 33 dX11_isTied_153 (by decide) ?_
                      exact jj_sub (lv2 := [(0, .ref (ad 0)), (1, .int x1), (2, .int x2), (3, .int x3), (4, .int x4), (5, .int (x5 + 1))]) [2, 3, 4, 5, 6, 0] rfl (ih (x5 + 1) hV)
                    · have hV := hV.2 h38
                      refine jj_iconst (pc2 := 149) hC 1 dX11_isTied_148 (by decide) rfl ?_
                      exact jj_zret hC jj_nb1 dX11_isTied_149 ⟨hV, rfl⟩
              · have hV := hV.2 h35
                refine jj_iconst (pc2 := 125) hC 1 dX11_isTied_124 (by decide) rfl ?_
                exact jj_zret hC jj_nb1 dX11_isTied_125 ⟨hV, rfl⟩
            · have hV := hV.2 h34
              refine jj_iload (pc2 := 101) hC dX11_isTied_99 0 rfl rfl ?_
              refine jj_bipush (pc2 := 103) hC 7 dX11_isTied_101 (by decide) rfl ?_
              refine jj_icmp_eq (pc2 := 106) hC 113 dX11_isTied_103 (by decide) rfl (fun h39 => ?_) (fun h39 => ?_)
              · have hV := hV.1 h39
                refine jj_aload_n (pc2 := 114) hC dX11_isTied_113 rfl 1 rfl rfl ?_
                refine rg_9 (pc2 := 117) hC hi_X11_isTied_X11 lk_X11_isTied_5 dX11_isTied_114 rfl ?_
                refine jj_iload (pc2 := 119) hC dX11_isTied_117 6 rfl rfl ?_
                refine ra_9 (pc2 := 120) hC hV.1 dX11_isTied_119 rfl ?_
                have hV := hV.2
                refine jj_iload_n (pc2 := 121) hC dX11_isTied_120 rfl 4 rfl rfl ?_
                refine jj_icmp_ne (pc2 := 124) hC 126 dX11_isTied_121 (by decide) rfl (fun h40 => ?_) (fun h40 => ?_)
                · have hV := hV.1 h40
                  refine jj_iload_n (pc2 := 127) hC dX11_isTied_126 rfl 2 rfl rfl ?_
                  refine jj_iconst (pc2 := 128) hC 2 dX11_isTied_127 (by decide) rfl ?_
                  refine jj_icmp_ne (pc2 := 131) hC 150 dX11_isTied_128 (by decide) rfl (fun h41 => ?_) (fun h41 => ?_)
                  · have hV := hV.1 h41
                    refine jj_iinc (pc2 := 153) hC (x5 + 1) [(5, .int (x5 + 1)), (6, .int y5), (0, .ref (ad 0)), (1, .int x1), (2, .int x2), (3, .int x3), (4, .int x4)] dX11_isTied_150 6 rfl rfl (by decide) rfl rfl ?_
                    refine jj_goto hC 33 dX11_isTied_153 (by decide) ?_
                    exact jj_sub (lv2 := [(0, .ref (ad 0)), (1, .int x1), (2, .int x2), (3, .int x3), (4, .int x4), (5, .int (x5 + 1))]) [2, 3, 4, 5, 6, 0] rfl (ih (x5 + 1) hV)
                  · have hV := hV.2 h41
                    refine jj_iload (pc2 := 133) hC dX11_isTied_131 0 rfl rfl ?_
                    refine jj_iconst (pc2 := 134) hC 3 dX11_isTied_133 (by decide) rfl ?_
                    refine jj_icmp_ne (pc2 := 137) hC 150 dX11_isTied_134 (by decide) rfl (fun h42 => ?_) (fun h42 => ?_)
                    · have hV := hV.1 h42
                      refine jj_iinc (pc2 := 153) hC (x5 + 1) [(5, .int (x5 + 1)), (6, .int y5), (0, .ref (ad 0)), (1, .int x1), (2, .int x2), (3, .int x3), (4, .int x4)] dX11_isTied_150 6 rfl rfl (by decide) rfl rfl ?_
                      refine jj_goto hC 33 dX11_isTied_153 (by decide) ?_
                      exact jj_sub (lv2 := [(0, .ref (ad 0)), (1, .int x1), (2, .int x2), (3, .int x3), (4, .int x4), (5, .int (x5 + 1))]) [2, 3, 4, 5, 6, 0] rfl (ih (x5 + 1) hV)
                    · have hV := hV.2 h42
                      refine jj_aload_n (pc2 := 138) hC dX11_isTied_137 rfl 1 rfl rfl ?_
                      refine rg_9 (pc2 := 141) hC hi_X11_isTied_X11 lk_X11_isTied_5 dX11_isTied_138 rfl ?_
                      refine jj_iload (pc2 := 143) hC dX11_isTied_141 6 rfl rfl ?_
                      refine ra_9 (pc2 := 144) hC hV.1 dX11_isTied_143 rfl ?_
                      have hV := hV.2
                      refine jj_iload_n (pc2 := 145) hC dX11_isTied_144 rfl 4 rfl rfl ?_
                      refine jj_icmp_ne (pc2 := 148) hC 150 dX11_isTied_145 (by decide) rfl (fun h43 => ?_) (fun h43 => ?_)
                      · have hV := hV.1 h43
                        refine jj_iinc (pc2 := 153) hC (x5 + 1) [(5, .int (x5 + 1)), (6, .int y5), (0, .ref (ad 0)), (1, .int x1), (2, .int x2), (3, .int x3), (4, .int x4)] dX11_isTied_150 6 rfl rfl (by decide) rfl rfl ?_
                        refine jj_goto hC 33 dX11_isTied_153 (by decide) ?_
                        exact jj_sub (lv2 := [(0, .ref (ad 0)), (1, .int x1), (2, .int x2), (3, .int x3), (4, .int x4), (5, .int (x5 + 1))]) [2, 3, 4, 5, 6, 0] rfl (ih (x5 + 1) hV)
                      · have hV := hV.2 h43
                        refine jj_iconst (pc2 := 149) hC 1 dX11_isTied_148 (by decide) rfl ?_
                        exact jj_zret hC jj_nb1 dX11_isTied_149 ⟨hV, rfl⟩
                · have hV := hV.2 h40
                  refine jj_iconst (pc2 := 125) hC 1 dX11_isTied_124 (by decide) rfl ?_
                  exact jj_zret hC jj_nb1 dX11_isTied_125 ⟨hV, rfl⟩
              · have hV := hV.2 h39
                refine jj_iload (pc2 := 108) hC dX11_isTied_106 0 rfl rfl ?_
                refine jj_bipush (pc2 := 110) hC 8 dX11_isTied_108 (by decide) rfl ?_
                refine jj_icmp_ne (pc2 := 113) hC 126 dX11_isTied_110 (by decide) rfl (fun h44 => ?_) (fun h44 => ?_)
                · have hV := hV.1 h44
                  refine jj_iload_n (pc2 := 127) hC dX11_isTied_126 rfl 2 rfl rfl ?_
                  refine jj_iconst (pc2 := 128) hC 2 dX11_isTied_127 (by decide) rfl ?_
                  refine jj_icmp_ne (pc2 := 131) hC 150 dX11_isTied_128 (by decide) rfl (fun h45 => ?_) (fun h45 => ?_)
                  · have hV := hV.1 h45
                    refine jj_iinc (pc2 := 153) hC (x5 + 1) [(5, .int (x5 + 1)), (6, .int y5), (0, .ref (ad 0)), (1, .int x1), (2, .int x2), (3, .int x3), (4, .int x4)] dX11_isTied_150 6 rfl rfl (by decide) rfl rfl ?_
                    refine jj_goto hC 33 dX11_isTied_153 (by decide) ?_
                    exact jj_sub (lv2 := [(0, .ref (ad 0)), (1, .int x1), (2, .int x2), (3, .int x3), (4, .int x4), (5, .int (x5 + 1))]) [2, 3, 4, 5, 6, 0] rfl (ih (x5 + 1) hV)
                  · have hV := hV.2 h45
                    refine jj_iload (pc2 := 133) hC dX11_isTied_131 0 rfl rfl ?_
                    refine jj_iconst (pc2 := 134) hC 3 dX11_isTied_133 (by decide) rfl ?_
                    refine jj_icmp_ne (pc2 := 137) hC 150 dX11_isTied_134 (by decide) rfl (fun h46 => ?_) (fun h46 => ?_)
                    · have hV := hV.1 h46
                      refine jj_iinc (pc2 := 153) hC (x5 + 1) [(5, .int (x5 + 1)), (6, .int y5), (0, .ref (ad 0)), (1, .int x1), (2, .int x2), (3, .int x3), (4, .int x4)] dX11_isTied_150 6 rfl rfl (by decide) rfl rfl ?_
                      refine jj_goto hC 33 dX11_isTied_153 (by decide) ?_
                      exact jj_sub (lv2 := [(0, .ref (ad 0)), (1, .int x1), (2, .int x2), (3, .int x3), (4, .int x4), (5, .int (x5 + 1))]) [2, 3, 4, 5, 6, 0] rfl (ih (x5 + 1) hV)
                    · have hV := hV.2 h46
                      refine jj_aload_n (pc2 := 138) hC dX11_isTied_137 rfl 1 rfl rfl ?_
                      refine rg_9 (pc2 := 141) hC hi_X11_isTied_X11 lk_X11_isTied_5 dX11_isTied_138 rfl ?_
                      refine jj_iload (pc2 := 143) hC dX11_isTied_141 6 rfl rfl ?_
                      refine ra_9 (pc2 := 144) hC hV.1 dX11_isTied_143 rfl ?_
                      have hV := hV.2
                      refine jj_iload_n (pc2 := 145) hC dX11_isTied_144 rfl 4 rfl rfl ?_
                      refine jj_icmp_ne (pc2 := 148) hC 150 dX11_isTied_145 (by decide) rfl (fun h47 => ?_) (fun h47 => ?_)
                      · have hV := hV.1 h47
                        refine jj_iinc (pc2 := 153) hC (x5 + 1) [(5, .int (x5 + 1)), (6, .int y5), (0, .ref (ad 0)), (1, .int x1), (2, .int x2), (3, .int x3), (4, .int x4)] dX11_isTied_150 6 rfl rfl (by decide) rfl rfl ?_
                        refine jj_goto hC 33 dX11_isTied_153 (by decide) ?_
                        exact jj_sub (lv2 := [(0, .ref (ad 0)), (1, .int x1), (2, .int x2), (3, .int x3), (4, .int x4), (5, .int (x5 + 1))]) [2, 3, 4, 5, 6, 0] rfl (ih (x5 + 1) hV)
                      · have hV := hV.2 h47
                        refine jj_iconst (pc2 := 149) hC 1 dX11_isTied_148 (by decide) rfl ?_
                        exact jj_zret hC jj_nb1 dX11_isTied_149 ⟨hV, rfl⟩
                · have hV := hV.2 h44
                  refine jj_aload_n (pc2 := 114) hC dX11_isTied_113 rfl 1 rfl rfl ?_
                  refine rg_9 (pc2 := 117) hC hi_X11_isTied_X11 lk_X11_isTied_5 dX11_isTied_114 rfl ?_
                  refine jj_iload (pc2 := 119) hC dX11_isTied_117 6 rfl rfl ?_
                  refine ra_9 (pc2 := 120) hC hV.1 dX11_isTied_119 rfl ?_
                  have hV := hV.2
                  refine jj_iload_n (pc2 := 121) hC dX11_isTied_120 rfl 4 rfl rfl ?_
                  refine jj_icmp_ne (pc2 := 124) hC 126 dX11_isTied_121 (by decide) rfl (fun h48 => ?_) (fun h48 => ?_)
                  · have hV := hV.1 h48
                    refine jj_iload_n (pc2 := 127) hC dX11_isTied_126 rfl 2 rfl rfl ?_
                    refine jj_iconst (pc2 := 128) hC 2 dX11_isTied_127 (by decide) rfl ?_
                    refine jj_icmp_ne (pc2 := 131) hC 150 dX11_isTied_128 (by decide) rfl (fun h49 => ?_) (fun h49 => ?_)
                    · have hV := hV.1 h49
                      refine jj_iinc (pc2 := 153) hC (x5 + 1) [(5, .int (x5 + 1)), (6, .int y5), (0, .ref (ad 0)), (1, .int x1), (2, .int x2), (3, .int x3), (4, .int x4)] dX11_isTied_150 6 rfl rfl (by decide) rfl rfl ?_
                      refine jj_goto hC 33 dX11_isTied_153 (by decide) ?_
                      exact jj_sub (lv2 := [(0, .ref (ad 0)), (1, .int x1), (2, .int x2), (3, .int x3), (4, .int x4), (5, .int (x5 + 1))]) [2, 3, 4, 5, 6, 0] rfl (ih (x5 + 1) hV)
                    · have hV := hV.2 h49
                      refine jj_iload (pc2 := 133) hC dX11_isTied_131 0 rfl rfl ?_
                      refine jj_iconst (pc2 := 134) hC 3 dX11_isTied_133 (by decide) rfl ?_
                      refine jj_icmp_ne (pc2 := 137) hC 150 dX11_isTied_134 (by decide) rfl (fun h50 => ?_) (fun h50 => ?_)
                      · have hV := hV.1 h50
                        refine jj_iinc (pc2 := 153) hC (x5 + 1) [(5, .int (x5 + 1)), (6, .int y5), (0, .ref (ad 0)), (1, .int x1), (2, .int x2), (3, .int x3), (4, .int x4)] dX11_isTied_150 6 rfl rfl (by decide) rfl rfl ?_
                        refine jj_goto hC 33 dX11_isTied_153 (by decide) ?_
                        exact jj_sub (lv2 := [(0, .ref (ad 0)), (1, .int x1), (2, .int x2), (3, .int x3), (4, .int x4), (5, .int (x5 + 1))]) [2, 3, 4, 5, 6, 0] rfl (ih (x5 + 1) hV)
                      · have hV := hV.2 h50
                        refine jj_aload_n (pc2 := 138) hC dX11_isTied_137 rfl 1 rfl rfl ?_
                        refine rg_9 (pc2 := 141) hC hi_X11_isTied_X11 lk_X11_isTied_5 dX11_isTied_138 rfl ?_
                        refine jj_iload (pc2 := 143) hC dX11_isTied_141 6 rfl rfl ?_
                        refine ra_9 (pc2 := 144) hC hV.1 dX11_isTied_143 rfl ?_
                        have hV := hV.2
                        refine jj_iload_n (pc2 := 145) hC dX11_isTied_144 rfl 4 rfl rfl ?_
                        refine jj_icmp_ne (pc2 := 148) hC 150 dX11_isTied_145 (by decide) rfl (fun h51 => ?_) (fun h51 => ?_)
                        · have hV := hV.1 h51
                          refine jj_iinc (pc2 := 153) hC (x5 + 1) [(5, .int (x5 + 1)), (6, .int y5), (0, .ref (ad 0)), (1, .int x1), (2, .int x2), (3, .int x3), (4, .int x4)] dX11_isTied_150 6 rfl rfl (by decide) rfl rfl ?_
                          refine jj_goto hC 33 dX11_isTied_153 (by decide) ?_
                          exact jj_sub (lv2 := [(0, .ref (ad 0)), (1, .int x1), (2, .int x2), (3, .int x3), (4, .int x4), (5, .int (x5 + 1))]) [2, 3, 4, 5, 6, 0] rfl (ih (x5 + 1) hV)
                        · have hV := hV.2 h51
                          refine jj_iconst (pc2 := 149) hC 1 dX11_isTied_148 (by decide) rfl ?_
                          exact jj_zret hC jj_nb1 dX11_isTied_149 ⟨hV, rfl⟩
                  · have hV := hV.2 h48
                    refine jj_iconst (pc2 := 125) hC 1 dX11_isTied_124 (by decide) rfl ?_
                    exact jj_zret hC jj_nb1 dX11_isTied_125 ⟨hV, rfl⟩
        · have hV := hV.2 h29
          refine jj_aload_n (pc2 := 71) hC dX11_isTied_70 rfl 1 rfl rfl ?_
          refine rg_6 (pc2 := 74) hC hi_X11_isTied_X11 lk_X11_isTied_2 dX11_isTied_71 rfl ?_
          refine jj_aload_n (pc2 := 75) hC dX11_isTied_74 rfl 1 rfl rfl ?_
          refine rg_9 (pc2 := 78) hC hi_X11_isTied_X11 lk_X11_isTied_5 dX11_isTied_75 rfl ?_
          refine jj_iload (pc2 := 80) hC dX11_isTied_78 6 rfl rfl ?_
          refine ra_9 (pc2 := 81) hC hV.1 dX11_isTied_80 rfl ?_
          have hV := hV.2
          refine ra_6 (pc2 := 82) hC hV.1 dX11_isTied_81 rfl ?_
          have hV := hV.2
          refine jj_iload_n (pc2 := 83) hC dX11_isTied_82 rfl 4 rfl rfl ?_
          refine jj_icmp_ne (pc2 := 86) hC 88 dX11_isTied_83 (by decide) rfl (fun h52 => ?_) (fun h52 => ?_)
          · have hV := hV.1 h52
            refine jj_iload_n (pc2 := 89) hC dX11_isTied_88 rfl 2 rfl rfl ?_
            refine jj_iconst (pc2 := 90) hC 1 dX11_isTied_89 (by decide) rfl ?_
            refine jj_icmp_ne (pc2 := 93) hC 126 dX11_isTied_90 (by decide) rfl (fun h53 => ?_) (fun h53 => ?_)
            · have hV := hV.1 h53
              refine jj_iload_n (pc2 := 127) hC dX11_isTied_126 rfl 2 rfl rfl ?_
              refine jj_iconst (pc2 := 128) hC 2 dX11_isTied_127 (by decide) rfl ?_
              refine jj_icmp_ne (pc2 := 131) hC 150 dX11_isTied_128 (by decide) rfl (fun h54 => ?_) (fun h54 => ?_)
              · have hV := hV.1 h54
                refine jj_iinc (pc2 := 153) hC (x5 + 1) [(5, .int (x5 + 1)), (6, .int y5), (0, .ref (ad 0)), (1, .int x1), (2, .int x2), (3, .int x3), (4, .int x4)] dX11_isTied_150 6 rfl rfl (by decide) rfl rfl ?_
                refine jj_goto hC 33 dX11_isTied_153 (by decide) ?_
                exact jj_sub (lv2 := [(0, .ref (ad 0)), (1, .int x1), (2, .int x2), (3, .int x3), (4, .int x4), (5, .int (x5 + 1))]) [2, 3, 4, 5, 6, 0] rfl (ih (x5 + 1) hV)
              · have hV := hV.2 h54
                refine jj_iload (pc2 := 133) hC dX11_isTied_131 0 rfl rfl ?_
                refine jj_iconst (pc2 := 134) hC 3 dX11_isTied_133 (by decide) rfl ?_
                refine jj_icmp_ne (pc2 := 137) hC 150 dX11_isTied_134 (by decide) rfl (fun h55 => ?_) (fun h55 => ?_)
                · have hV := hV.1 h55
                  refine jj_iinc (pc2 := 153) hC (x5 + 1) [(5, .int (x5 + 1)), (6, .int y5), (0, .ref (ad 0)), (1, .int x1), (2, .int x2), (3, .int x3), (4, .int x4)] dX11_isTied_150 6 rfl rfl (by decide) rfl rfl ?_
                  refine jj_goto hC 33 dX11_isTied_153 (by decide) ?_
                  exact jj_sub (lv2 := [(0, .ref (ad 0)), (1, .int x1), (2, .int x2), (3, .int x3), (4, .int x4), (5, .int (x5 + 1))]) [2, 3, 4, 5, 6, 0] rfl (ih (x5 + 1) hV)
                · have hV := hV.2 h55
                  refine jj_aload_n (pc2 := 138) hC dX11_isTied_137 rfl 1 rfl rfl ?_
                  refine rg_9 (pc2 := 141) hC hi_X11_isTied_X11 lk_X11_isTied_5 dX11_isTied_138 rfl ?_
                  refine jj_iload (pc2 := 143) hC dX11_isTied_141 6 rfl rfl ?_
                  refine ra_9 (pc2 := 144) hC hV.1 dX11_isTied_143 rfl ?_
                  have hV := hV.2
                  refine jj_iload_n (pc2 := 145) hC dX11_isTied_144 rfl 4 rfl rfl ?_
                  refine jj_icmp_ne (pc2 := 148) hC 150 dX11_isTied_145 (by decide) rfl (fun h56 => ?_) (fun h56 => ?_)
                  · have hV := hV.1 h56
                    refine jj_iinc (pc2 := 153) hC (x5 + 1) [(5, .int (x5 + 1)), (6, .int y5), (0, .ref (ad 0)), (1, .int x1), (2, .int x2), (3, .int x3), (4, .int x4)] dX11_isTied_150 6 rfl rfl (by decide) rfl rfl ?_
                    refine jj_goto hC 33 dX11_isTied_153 (by decide) ?_
                    exact jj_sub (lv2 := [(0, .ref (ad 0)), (1, .int x1), (2, .int x2), (3, .int x3), (4, .int x4), (5, .int (x5 + 1))]) [2, 3, 4, 5, 6, 0] rfl (ih (x5 + 1) hV)
                  · have hV := hV.2 h56
                    refine jj_iconst (pc2 := 149) hC 1 dX11_isTied_148 (by decide) rfl ?_
                    exact jj_zret hC jj_nb1 dX11_isTied_149 ⟨hV, rfl⟩
            · have hV := hV.2 h53
              refine jj_iload (pc2 := 95) hC dX11_isTied_93 0 rfl rfl ?_
              refine jj_iconst (pc2 := 96) hC 2 dX11_isTied_95 (by decide) rfl ?_
              refine jj_icmp_eq (pc2 := 99) hC 113 dX11_isTied_96 (by decide) rfl (fun h57 => ?_) (fun h57 => ?_)
              · have hV := hV.1 h57
                refine jj_aload_n (pc2 := 114) hC dX11_isTied_113 rfl 1 rfl rfl ?_
                refine rg_9 (pc2 := 117) hC hi_X11_isTied_X11 lk_X11_isTied_5 dX11_isTied_114 rfl ?_
                refine jj_iload (pc2 := 119) hC dX11_isTied_117 6 rfl rfl ?_
                refine ra_9 (pc2 := 120) hC hV.1 dX11_isTied_119 rfl ?_
                have hV := hV.2
                refine jj_iload_n (pc2 := 121) hC dX11_isTied_120 rfl 4 rfl rfl ?_
                refine jj_icmp_ne (pc2 := 124) hC 126 dX11_isTied_121 (by decide) rfl (fun h58 => ?_) (fun h58 => ?_)
                · have hV := hV.1 h58
                  refine jj_iload_n (pc2 := 127) hC dX11_isTied_126 rfl 2 rfl rfl ?_
                  refine jj_iconst (pc2 := 128) hC 2 dX11_isTied_127 (by decide) rfl ?_
                  refine jj_icmp_ne (pc2 := 131) hC 150 dX11_isTied_128 (by decide) rfl (fun h59 => ?_) (fun h59 => ?_)
                  · have hV := hV.1 h59
                    refine jj_iinc (pc2 := 153) hC (x5 + 1) [(5, .int (x5 + 1)), (6, .int y5), (0, .ref (ad 0)), (1, .int x1), (2, .int x2), (3, .int x3), (4, .int x4)] dX11_isTied_150 6 rfl rfl (by decide) rfl rfl ?_
                    refine jj_goto hC 33 dX11_isTied_153 (by decide) ?_
                    exact jj_sub (lv2 := [(0, .ref (ad 0)), (1, .int x1), (2, .int x2), (3, .int x3), (4, .int x4), (5, .int (x5 + 1))]) [2, 3, 4, 5, 6, 0] rfl (ih (x5 + 1) hV)
                  · have hV := hV.2 h59
                    refine jj_iload (pc2 := 133) hC dX11_isTied_131 0 rfl rfl ?_
                    refine jj_iconst (pc2 := 134) hC 3 dX11_isTied_133 (by decide) rfl ?_
                    refine jj_icmp_ne (pc2 := 137) hC 150 dX11_isTied_134 (by decide) rfl (fun h60 => ?_) (fun h60 => ?_)
                    · have hV := hV.1 h60
                      refine jj_iinc (pc2 := 153) hC (x5 + 1) [(5, .int (x5 + 1)), (6, .int y5), (0, .ref (ad 0)), (1, .int x1), (2, .int x2), (3, .int x3), (4, .int x4)] dX11_isTied_150 6 rfl rfl (by decide) rfl rfl ?_
                      refine jj_goto hC 33 dX11_isTied_153 (by decide) ?_
                      exact jj_sub (lv2 := [(0, .ref (ad 0)), (1, .int x1), (2, .int x2), (3, .int x3), (4, .int x4), (5, .int (x5 + 1))]) [2, 3, 4, 5, 6, 0] rfl (ih (x5 + 1) hV)
                    · have hV := hV.2 h60
                      refine jj_aload_n (pc2 := 138) hC dX11_isTied_137 rfl 1 rfl rfl ?_
                      refine rg_9 (pc2 := 141) hC hi_X11_isTied_X11 lk_X11_isTied_5 dX11_isTied_138 rfl ?_
                      refine jj_iload (pc2 := 143) hC dX11_isTied_141 6 rfl rfl ?_
                      refine ra_9 (pc2 := 144) hC hV.1 dX11_isTied_143 rfl ?_
                      have hV := hV.2
                      refine jj_iload_n (pc2 := 145) hC dX11_isTied_144 rfl 4 rfl rfl ?_
                      refine jj_icmp_ne (pc2 := 148) hC 150 dX11_isTied_145 (by decide) rfl (fun h61 => ?_) (fun h61 => ?_)
                      · have hV := hV.1 h61
                        refine jj_iinc (pc2 := 153) hC (x5 + 1) [(5, .int (x5 + 1)), (6, .int y5), (0, .ref (ad 0)), (1, .int x1), (2, .int x2), (3, .int x3), (4, .int x4)] dX11_isTied_150 6 rfl rfl (by decide) rfl rfl ?_
                        refine jj_goto hC 33 dX11_isTied_153 (by decide) ?_
                        exact jj_sub (lv2 := [(0, .ref (ad 0)), (1, .int x1), (2, .int x2), (3, .int x3), (4, .int x4), (5, .int (x5 + 1))]) [2, 3, 4, 5, 6, 0] rfl (ih (x5 + 1) hV)
                      · have hV := hV.2 h61
                        refine jj_iconst (pc2 := 149) hC 1 dX11_isTied_148 (by decide) rfl ?_
                        exact jj_zret hC jj_nb1 dX11_isTied_149 ⟨hV, rfl⟩
                · have hV := hV.2 h58
                  refine jj_iconst (pc2 := 125) hC 1 dX11_isTied_124 (by decide) rfl ?_
                  exact jj_zret hC jj_nb1 dX11_isTied_125 ⟨hV, rfl⟩
              · have hV := hV.2 h57
                refine jj_iload (pc2 := 101) hC dX11_isTied_99 0 rfl rfl ?_
                refine jj_bipush (pc2 := 103) hC 7 dX11_isTied_101 (by decide) rfl ?_
                refine jj_icmp_eq (pc2 := 106) hC 113 dX11_isTied_103 (by decide) rfl (fun h62 => ?_) (fun h62 => ?_)
                · have hV := hV.1 h62
                  refine jj_aload_n (pc2 := 114) hC dX11_isTied_113 rfl 1 rfl rfl ?_
                  refine rg_9 (pc2 := 117) hC hi_X11_isTied_X11 lk_X11_isTied_5 dX11_isTied_114 rfl ?_
                  refine jj_iload (pc2 := 119) hC dX11_isTied_117 6 rfl rfl ?_
                  refine ra_9 (pc2 := 120) hC hV.1 dX11_isTied_119 rfl ?_
                  have hV := hV.2
                  refine jj_iload_n (pc2 := 121) hC dX11_isTied_120 rfl 4 rfl rfl ?_
                  refine jj_icmp_ne (pc2 := 124) hC 126 dX11_isTied_121 (by decide) rfl (fun h63 => ?_) (fun h63 => ?_)
                  · have hV := hV.1 h63
                    refine jj_iload_n (pc2 := 127) hC dX11_isTied_126 rfl 2 rfl rfl ?_
                    refine jj_iconst (pc2 := 128) hC 2 dX11_isTied_127 (by decide) rfl ?_
                    refine jj_icmp_ne (pc2 := 131) hC 150 dX11_isTied_128 (by decide) rfl (fun h64 => ?_) (fun h64 => ?_)
                    · have hV := hV.1 h64
                      refine jj_iinc (pc2 := 153) hC (x5 + 1) [(5, .int (x5 + 1)), (6, .int y5), (0, .ref (ad 0)), (1, .int x1), (2, .int x2), (3, .int x3), (4, .int x4)] dX11_isTied_150 6 rfl rfl (by decide) rfl rfl ?_
                      refine jj_goto hC 33 dX11_isTied_153 (by decide) ?_
                      exact jj_sub (lv2 := [(0, .ref (ad 0)), (1, .int x1), (2, .int x2), (3, .int x3), (4, .int x4), (5, .int (x5 + 1))]) [2, 3, 4, 5, 6, 0] rfl (ih (x5 + 1) hV)
                    · have hV := hV.2 h64
                      refine jj_iload (pc2 := 133) hC dX11_isTied_131 0 rfl rfl ?_
                      refine jj_iconst (pc2 := 134) hC 3 dX11_isTied_133 (by decide) rfl ?_
                      refine jj_icmp_ne (pc2 := 137) hC 150 dX11_isTied_134 (by decide) rfl (fun h65 => ?_) (fun h65 => ?_)
                      · have hV := hV.1 h65
                        refine jj_iinc (pc2 := 153) hC (x5 + 1) [(5, .int (x5 + 1)), (6, .int y5), (0, .ref (ad 0)), (1, .int x1), (2, .int x2), (3, .int x3), (4, .int x4)] dX11_isTied_150 6 rfl rfl (by decide) rfl rfl ?_
                        refine jj_goto hC 33 dX11_isTied_153 (by decide) ?_
                        exact jj_sub (lv2 := [(0, .ref (ad 0)), (1, .int x1), (2, .int x2), (3, .int x3), (4, .int x4), (5, .int (x5 + 1))]) [2, 3, 4, 5, 6, 0] rfl (ih (x5 + 1) hV)
                      · have hV := hV.2 h65
                        refine jj_aload_n (pc2 := 138) hC dX11_isTied_137 rfl 1 rfl rfl ?_
                        refine rg_9 (pc2 := 141) hC hi_X11_isTied_X11 lk_X11_isTied_5 dX11_isTied_138 rfl ?_
                        refine jj_iload (pc2 := 143) hC dX11_isTied_141 6 rfl rfl ?_
                        refine ra_9 (pc2 := 144) hC hV.1 dX11_isTied_143 rfl ?_
                        have hV := hV.2
                        refine jj_iload_n (pc2 := 145) hC dX11_isTied_144 rfl 4 rfl rfl ?_
                        refine jj_icmp_ne (pc2 := 148) hC 150 dX11_isTied_145 (by decide) rfl (fun h66 => ?_) (fun h66 => ?_)
                        · have hV := hV.1 h66
                          refine jj_iinc (pc2 := 153) hC (x5 + 1) [(5, .int (x5 + 1)), (6, .int y5), (0, .ref (ad 0)), (1, .int x1), (2, .int x2), (3, .int x3), (4, .int x4)] dX11_isTied_150 6 rfl rfl (by decide) rfl rfl ?_
                          refine jj_goto hC 33 dX11_isTied_153 (by decide) ?_
                          exact jj_sub (lv2 := [(0, .ref (ad 0)), (1, .int x1), (2, .int x2), (3, .int x3), (4, .int x4), (5, .int (x5 + 1))]) [2, 3, 4, 5, 6, 0] rfl (ih (x5 + 1) hV)
                        · have hV := hV.2 h66
                          refine jj_iconst (pc2 := 149) hC 1 dX11_isTied_148 (by decide) rfl ?_
                          exact jj_zret hC jj_nb1 dX11_isTied_149 ⟨hV, rfl⟩
                  · have hV := hV.2 h63
                    refine jj_iconst (pc2 := 125) hC 1 dX11_isTied_124 (by decide) rfl ?_
                    exact jj_zret hC jj_nb1 dX11_isTied_125 ⟨hV, rfl⟩
                · have hV := hV.2 h62
                  refine jj_iload (pc2 := 108) hC dX11_isTied_106 0 rfl rfl ?_
                  refine jj_bipush (pc2 := 110) hC 8 dX11_isTied_108 (by decide) rfl ?_
                  refine jj_icmp_ne (pc2 := 113) hC 126 dX11_isTied_110 (by decide) rfl (fun h67 => ?_) (fun h67 => ?_)
                  · have hV := hV.1 h67
                    refine jj_iload_n (pc2 := 127) hC dX11_isTied_126 rfl 2 rfl rfl ?_
                    refine jj_iconst (pc2 := 128) hC 2 dX11_isTied_127 (by decide) rfl ?_
                    refine jj_icmp_ne (pc2 := 131) hC 150 dX11_isTied_128 (by decide) rfl (fun h68 => ?_) (fun h68 => ?_)
                    · have hV := hV.1 h68
                      refine jj_iinc (pc2 := 153) hC (x5 + 1) [(5, .int (x5 + 1)), (6, .int y5), (0, .ref (ad 0)), (1, .int x1), (2, .int x2), (3, .int x3), (4, .int x4)] dX11_isTied_150 6 rfl rfl (by decide) rfl rfl ?_
                      refine jj_goto hC 33 dX11_isTied_153 (by decide) ?_
                      exact jj_sub (lv2 := [(0, .ref (ad 0)), (1, .int x1), (2, .int x2), (3, .int x3), (4, .int x4), (5, .int (x5 + 1))]) [2, 3, 4, 5, 6, 0] rfl (ih (x5 + 1) hV)
                    · have hV := hV.2 h68
                      refine jj_iload (pc2 := 133) hC dX11_isTied_131 0 rfl rfl ?_
                      refine jj_iconst (pc2 := 134) hC 3 dX11_isTied_133 (by decide) rfl ?_
                      refine jj_icmp_ne (pc2 := 137) hC 150 dX11_isTied_134 (by decide) rfl (fun h69 => ?_) (fun h69 => ?_)
                      · have hV := hV.1 h69
                        refine jj_iinc (pc2 := 153) hC (x5 + 1) [(5, .int (x5 + 1)), (6, .int y5), (0, .ref (ad 0)), (1, .int x1), (2, .int x2), (3, .int x3), (4, .int x4)] dX11_isTied_150 6 rfl rfl (by decide) rfl rfl ?_
                        refine jj_goto hC 33 dX11_isTied_153 (by decide) ?_
                        exact jj_sub (lv2 := [(0, .ref (ad 0)), (1, .int x1), (2, .int x2), (3, .int x3), (4, .int x4), (5, .int (x5 + 1))]) [2, 3, 4, 5, 6, 0] rfl (ih (x5 + 1) hV)
                      · have hV := hV.2 h69
                        refine jj_aload_n (pc2 := 138) hC dX11_isTied_137 rfl 1 rfl rfl ?_
                        refine rg_9 (pc2 := 141) hC hi_X11_isTied_X11 lk_X11_isTied_5 dX11_isTied_138 rfl ?_
                        refine jj_iload (pc2 := 143) hC dX11_isTied_141 6 rfl rfl ?_
                        refine ra_9 (pc2 := 144) hC hV.1 dX11_isTied_143 rfl ?_
                        have hV := hV.2
                        refine jj_iload_n (pc2 := 145) hC dX11_isTied_144 rfl 4 rfl rfl ?_
                        refine jj_icmp_ne (pc2 := 148) hC 150 dX11_isTied_145 (by decide) rfl (fun h70 => ?_) (fun h70 => ?_)
                        · have hV := hV.1 h70
                          refine jj_iinc (pc2 := 153) hC (x5 + 1) [(5, .int (x5 + 1)), (6, .int y5), (0, .ref (ad 0)), (1, .int x1), (2, .int x2), (3, .int x3), (4, .int x4)] dX11_isTied_150 6 rfl rfl (by decide) rfl rfl ?_
                          refine jj_goto hC 33 dX11_isTied_153 (by decide) ?_
                          exact jj_sub (lv2 := [(0, .ref (ad 0)), (1, .int x1), (2, .int x2), (3, .int x3), (4, .int x4), (5, .int (x5 + 1))]) [2, 3, 4, 5, 6, 0] rfl (ih (x5 + 1) hV)
                        · have hV := hV.2 h70
                          refine jj_iconst (pc2 := 149) hC 1 dX11_isTied_148 (by decide) rfl ?_
                          exact jj_zret hC jj_nb1 dX11_isTied_149 ⟨hV, rfl⟩
                  · have hV := hV.2 h67
                    refine jj_aload_n (pc2 := 114) hC dX11_isTied_113 rfl 1 rfl rfl ?_
                    refine rg_9 (pc2 := 117) hC hi_X11_isTied_X11 lk_X11_isTied_5 dX11_isTied_114 rfl ?_
                    refine jj_iload (pc2 := 119) hC dX11_isTied_117 6 rfl rfl ?_
                    refine ra_9 (pc2 := 120) hC hV.1 dX11_isTied_119 rfl ?_
                    have hV := hV.2
                    refine jj_iload_n (pc2 := 121) hC dX11_isTied_120 rfl 4 rfl rfl ?_
                    refine jj_icmp_ne (pc2 := 124) hC 126 dX11_isTied_121 (by decide) rfl (fun h71 => ?_) (fun h71 => ?_)
                    · have hV := hV.1 h71
                      refine jj_iload_n (pc2 := 127) hC dX11_isTied_126 rfl 2 rfl rfl ?_
                      refine jj_iconst (pc2 := 128) hC 2 dX11_isTied_127 (by decide) rfl ?_
                      refine jj_icmp_ne (pc2 := 131) hC 150 dX11_isTied_128 (by decide) rfl (fun h72 => ?_) (fun h72 => ?_)
                      · have hV := hV.1 h72
                        refine jj_iinc (pc2 := 153) hC (x5 + 1) [(5, .int (x5 + 1)), (6, .int y5), (0, .ref (ad 0)), (1, .int x1), (2, .int x2), (3, .int x3), (4, .int x4)] dX11_isTied_150 6 rfl rfl (by decide) rfl rfl ?_
                        refine jj_goto hC 33 dX11_isTied_153 (by decide) ?_
                        exact jj_sub (lv2 := [(0, .ref (ad 0)), (1, .int x1), (2, .int x2), (3, .int x3), (4, .int x4), (5, .int (x5 + 1))]) [2, 3, 4, 5, 6, 0] rfl (ih (x5 + 1) hV)
                      · have hV := hV.2 h72
                        refine jj_iload (pc2 := 133) hC dX11_isTied_131 0 rfl rfl ?_
                        refine jj_iconst (pc2 := 134) hC 3 dX11_isTied_133 (by decide) rfl ?_
                        refine jj_icmp_ne (pc2 := 137) hC 150 dX11_isTied_134 (by decide) rfl (fun h73 => ?_) (fun h73 => ?_)
                        · have hV := hV.1 h73
                          refine jj_iinc (pc2 := 153) hC (x5 + 1) [(5, .int (x5 + 1)), (6, .int y5), (0, .ref (ad 0)), (1, .int x1), (2, .int x2), (3, .int x3), (4, .int x4)] dX11_isTied_150 6 rfl rfl (by decide) rfl rfl ?_
                          refine jj_goto hC 33 dX11_isTied_153 (by decide) ?_
                          exact jj_sub (lv2 := [(0, .ref (ad 0)), (1, .int x1), (2, .int x2), (3, .int x3), (4, .int x4), (5, .int (x5 + 1))]) [2, 3, 4, 5, 6, 0] rfl (ih (x5 + 1) hV)
                        · have hV := hV.2 h73
                          refine jj_aload_n (pc2 := 138) hC dX11_isTied_137 rfl 1 rfl rfl ?_
                          refine rg_9 (pc2 := 141) hC hi_X11_isTied_X11 lk_X11_isTied_5 dX11_isTied_138 rfl ?_
                          refine jj_iload (pc2 := 143) hC dX11_isTied_141 6 rfl rfl ?_
                          refine ra_9 (pc2 := 144) hC hV.1 dX11_isTied_143 rfl ?_
                          have hV := hV.2
                          refine jj_iload_n (pc2 := 145) hC dX11_isTied_144 rfl 4 rfl rfl ?_
                          refine jj_icmp_ne (pc2 := 148) hC 150 dX11_isTied_145 (by decide) rfl (fun h74 => ?_) (fun h74 => ?_)
                          · have hV := hV.1 h74
                            refine jj_iinc (pc2 := 153) hC (x5 + 1) [(5, .int (x5 + 1)), (6, .int y5), (0, .ref (ad 0)), (1, .int x1), (2, .int x2), (3, .int x3), (4, .int x4)] dX11_isTied_150 6 rfl rfl (by decide) rfl rfl ?_
                            refine jj_goto hC 33 dX11_isTied_153 (by decide) ?_
                            exact jj_sub (lv2 := [(0, .ref (ad 0)), (1, .int x1), (2, .int x2), (3, .int x3), (4, .int x4), (5, .int (x5 + 1))]) [2, 3, 4, 5, 6, 0] rfl (ih (x5 + 1) hV)
                          · have hV := hV.2 h74
                            refine jj_iconst (pc2 := 149) hC 1 dX11_isTied_148 (by decide) rfl ?_
                            exact jj_zret hC jj_nb1 dX11_isTied_149 ⟨hV, rfl⟩
                    · have hV := hV.2 h71
                      refine jj_iconst (pc2 := 125) hC 1 dX11_isTied_124 (by decide) rfl ?_
                      exact jj_zret hC jj_nb1 dX11_isTied_125 ⟨hV, rfl⟩
          · have hV := hV.2 h52
            refine jj_iconst (pc2 := 87) hC 1 dX11_isTied_86 (by decide) rfl ?_
            exact jj_zret hC jj_nb1 dX11_isTied_87 ⟨hV, rfl⟩
set_option maxHeartbeats 4000000 in
set_option maxRecDepth 100000 in
theorem ar_isTied_3 {p : Program} {l : Launch} {e : Env} {s : State} {m : MethodId} {args : Array Value} {below : List Frame} {meth : Method} {c : Code} {D : va_G} {cs : Nat → ClassId} {Y X : va_W} {ad : Nat → Nat} {g0 : jm_M} (hC : JC p s m args meth c D vwCl (va_A (wr_d Y X cs ad g0) s.heap.size) 7 cX11_isTied (some .boolean) wsX11_isTied RX11 (jt_tys cs)) (x1 : Int32) (x2 : Int32) (x3 : Int32) (Post : Int32 → Prop) : ∀ (f : Nat) (x4 : Int32), vr_isTied_3 x1 x2 x3 g0 Post f x4 → JJ (wr_d Y X cs ad) p l e rm_X11_isTied s m args below meth c D vwCl (va_A (wr_d Y X cs ad g0) s.heap.size) 7 0 0 (MQ below (jj_QI (wr_d Y X cs ad) D vwCl (jt_tys cs) g0 s.heap.size (fun r g2 => Post r ∧ g2 = g0)) args s 0 0 (va_A (wr_d Y X cs ad g0) s.heap.size)) 3 [(0, .ref (ad 0)), (1, .int x1), (2, .int x2), (3, .int x3), (4, .int x4)] [] g0 := by
  intro f
  induction f with
  | zero => intro x4 hV; exact hV.elim
  | succ f ih =>
    intro x4 hV
    rw [vr_isTied_3] at hV
    refine jj_iload (pc2 := 5) hC dX11_isTied_3 4 rfl rfl ?_
    refine jj_aload_n (pc2 := 6) hC dX11_isTied_5 rfl 0 rfl rfl ?_
    refine rg_5 (pc2 := 9) hC hi_X11_isTied_X11 lk_X11_isTied_1 dX11_isTied_6 rfl ?_
    refine jj_icmp_ge (pc2 := 12) hC 162 dX11_isTied_9 (by decide) rfl (fun h1 => ?_) (fun h1 => ?_)
    · have hV := hV.1 h1
      refine jj_iconst (pc2 := 163) hC 0 dX11_isTied_162 (by decide) rfl ?_
      exact jj_zret hC jj_nb0 dX11_isTied_163 ⟨hV, rfl⟩
    · have hV := hV.2 h1
      refine jj_aload_n (pc2 := 13) hC dX11_isTied_12 rfl 0 rfl rfl ?_
      refine rg_6 (pc2 := 16) hC hi_X11_isTied_X11 lk_X11_isTied_2 dX11_isTied_13 rfl ?_
      refine jj_iload (pc2 := 18) hC dX11_isTied_16 4 rfl rfl ?_
      refine ra_6 (pc2 := 19) hC hV.1 dX11_isTied_18 rfl ?_
      have hV := hV.2
      refine jj_iload_n (pc2 := 20) hC dX11_isTied_19 rfl 2 rfl rfl ?_
      refine jj_icmp_eq (pc2 := 23) hC 26 dX11_isTied_20 (by decide) rfl (fun h2 => ?_) (fun h2 => ?_)
      · have hV := hV.1 h2
        refine jj_bipush (pc2 := 28) hC 16 dX11_isTied_26 (by decide) rfl ?_
        refine jj_iload (pc2 := 30) hC dX11_isTied_28 4 rfl rfl ?_
        refine jj_imul (pc2 := 31) hC dX11_isTied_30 rfl ?_
        refine jj_topi (fun y3 ey3 => ?_)
        have hV := hV y3 ey3
        refine jj_istore (pc2 := 33) hC [(5, .int y3), (0, .ref (ad 0)), (1, .int x1), (2, .int x2), (3, .int x3), (4, .int x4)] dX11_isTied_31 (by decide) rfl rfl ?_
        obtain ⟨n75, hV⟩ := hV
        refine jj_sub (lv2 := [(0, .ref (ad 0)), (1, .int x1), (2, .int x2), (3, .int x3), (4, .int x4), (5, .int y3)]) [1, 2, 3, 4, 5, 0] rfl (ar_isTied_33 hC x1 x2 x3 x4 Post _ (fun hV => ?_) n75 y3 hV)
        refine jj_iinc (pc2 := 159) hC (x4 + 1) [(4, .int (x4 + 1)), (0, .ref (ad 0)), (1, .int x1), (2, .int x2), (3, .int x3)] dX11_isTied_156 4 rfl rfl (by decide) rfl rfl ?_
        refine jj_goto hC 3 dX11_isTied_159 (by decide) ?_
        exact jj_sub (lv2 := [(0, .ref (ad 0)), (1, .int x1), (2, .int x2), (3, .int x3), (4, .int (x4 + 1))]) [1, 2, 3, 4, 0] rfl (ih (x4 + 1) hV)
      · have hV := hV.2 h2
        refine jj_goto hC 156 dX11_isTied_23 (by decide) ?_
        refine jj_iinc (pc2 := 159) hC (x4 + 1) [(4, .int (x4 + 1)), (0, .ref (ad 0)), (1, .int x1), (2, .int x2), (3, .int x3)] dX11_isTied_156 4 rfl rfl (by decide) rfl rfl ?_
        refine jj_goto hC 3 dX11_isTied_159 (by decide) ?_
        exact jj_sub (lv2 := [(0, .ref (ad 0)), (1, .int x1), (2, .int x2), (3, .int x3), (4, .int (x4 + 1))]) [1, 2, 3, 4, 0] rfl (ih (x4 + 1) hV)
set_option maxHeartbeats 4000000 in
set_option maxRecDepth 100000 in
theorem cr_isTied (l : Launch) (D : va_G) (cs : Nat → ClassId) (Y X : va_W) (ad : Nat → Nat) (a1 : Int32) (a2 : Int32) (a3 : Int32) (g0 : jm_M) (Post : Int32 → Prop) (hV : vr_isTied a1 a2 a3 g0 Post) : JI (wr_d Y X cs ad) D vwCl (jt_tys cs) l yX11_isTied wsX11_isTied rm_X11_isTied 0 0 [.ref (ad 0), .int a1, .int a2, .int a3] g0 (fun r g2 => Post r ∧ g2 = g0) := by
  refine jj_metI (cc := cX11_isTied) (nL := 7) (ret := (some .boolean)) (by decide) rfl (Nat.le_of_ble_eq_true rfl) [(0, .ref (ad 0)), (1, .int a1), (2, .int a2), (3, .int a3)] rfl ?_
  intro p e s m args below meth c hC hnm
  rw [vr_isTied] at hV
  refine jj_iconst (pc2 := 1) hC 0 dX11_isTied_0 (by decide) rfl ?_
  refine jj_istore (pc2 := 3) hC [(4, .int 0), (0, .ref (ad 0)), (1, .int a1), (2, .int a2), (3, .int a3)] dX11_isTied_1 (by decide) rfl rfl ?_
  obtain ⟨n76, hV⟩ := hV
  refine jj_sub (lv2 := [(0, .ref (ad 0)), (1, .int a1), (2, .int a2), (3, .int a3), (4, .int 0)]) [1, 2, 3, 4, 0] rfl (ar_isTied_3 hC a1 a2 a3 Post n76 0 hV)
abbrev rm_X11_tied : Room := { frames := 3, cells := 0, slots := 0, locals := 66 }
def vr_tied (a1 : Int32) (a2 : Int32) (a3 : Int32) (g0 : jm_M) (Post : Int32 → Prop) : Prop := vr_isCount a1 a2 a3 g0 (fun (r1 : Int32) => ((¬ r1 = 0) → (vr_isTied a1 a2 a3 g0 (fun (r3 : Int32) => ((r3 = 0) → (Post 0)) ∧ ((¬ r3 = 0) → (Post 1))))) ∧ ((r1 = 0) → (Post (-1))))
set_option maxHeartbeats 4000000 in
set_option maxRecDepth 100000 in
theorem cr_tied (l : Launch) (D : va_G) (cs : Nat → ClassId) (Y X : va_W) (ad : Nat → Nat) (a1 : Int32) (a2 : Int32) (a3 : Int32) (g0 : jm_M) (Post : Int32 → Prop) (hV : vr_tied a1 a2 a3 g0 Post) : JI (wr_d Y X cs ad) D vwCl (jt_tys cs) l yX11_tied wsX11_tied rm_X11_tied 0 0 [.ref (ad 0), .int a1, .int a2, .int a3] g0 (fun r g2 => Post r ∧ g2 = g0) := by
  refine jj_metI (cc := cX11_tied) (nL := 4) (ret := (some .int)) (by decide) rfl (Nat.le_of_ble_eq_true rfl) [(0, .ref (ad 0)), (1, .int a1), (2, .int a2), (3, .int a3)] rfl ?_
  intro p e s m args below meth c hC hnm
  rw [vr_tied] at hV
  refine jj_aload_n (pc2 := 1) hC dX11_tied_0 rfl 0 rfl rfl ?_
  refine jj_iload_n (pc2 := 2) hC dX11_tied_1 rfl 1 rfl rfl ?_
  refine jj_iload_n (pc2 := 3) hC dX11_tied_2 rfl 2 rfl rfl ?_
  refine jj_iload_n (pc2 := 4) hC dX11_tied_3 rfl 3 rfl rfl ?_
  refine jj_cVIp (pc2 := 7) (wd := wr_d Y X cs ad) (g := g0) (rest := []) hC (Y.length + 0) (jx_at (V := wr_W cs ad g0) rfl) rfl rfl (cr_isCount l D cs Y X ad a1 a2 a3 g0 _ hV) (cwV 3 hC.1.2.2.2.2 gX11_tied_X11_isCount rfl rfl rfl (by decide +kernel) ⟨by decide, by decide⟩) rfl (Nat.le_of_ble_eq_true rfl) _ rfl dX11_tied_4 ⟨Nat.zero_le _, Nat.zero_le _⟩ rfl (fun r1 hV => ?_)
  refine jj_if_ne (pc2 := 10) hC 14 dX11_tied_7 (by decide) rfl (fun h2 => ?_) (fun h2 => ?_)
  · have hV := hV.1 h2
    refine jj_aload_n (pc2 := 15) hC dX11_tied_14 rfl 0 rfl rfl ?_
    refine jj_iload_n (pc2 := 16) hC dX11_tied_15 rfl 1 rfl rfl ?_
    refine jj_iload_n (pc2 := 17) hC dX11_tied_16 rfl 2 rfl rfl ?_
    refine jj_iload_n (pc2 := 18) hC dX11_tied_17 rfl 3 rfl rfl ?_
    refine jj_cVIp (pc2 := 21) (wd := wr_d Y X cs ad) (g := g0) (rest := []) hC (Y.length + 0) (jx_at (V := wr_W cs ad g0) rfl) rfl rfl (cr_isTied l D cs Y X ad a1 a2 a3 g0 _ hV) (cwV 3 hC.1.2.2.2.2 gX11_tied_X11_isTied rfl rfl rfl (by decide +kernel) ⟨by decide, by decide⟩) rfl (Nat.le_of_ble_eq_true rfl) _ rfl dX11_tied_18 ⟨Nat.zero_le _, Nat.zero_le _⟩ rfl (fun r3 hV => ?_)
    refine jj_if_eq (pc2 := 24) hC 28 dX11_tied_21 (by decide) rfl (fun h4 => ?_) (fun h4 => ?_)
    · have hV := hV.1 h4
      refine jj_iconst (pc2 := 29) hC 0 dX11_tied_28 (by decide) rfl ?_
      exact jj_iret hC dX11_tied_29 ⟨hV, rfl⟩
    · have hV := hV.2 h4
      refine jj_iconst (pc2 := 25) hC 1 dX11_tied_24 (by decide) rfl ?_
      refine jj_goto hC 29 dX11_tied_25 (by decide) ?_
      exact jj_iret hC dX11_tied_29 ⟨hV, rfl⟩
  · have hV := hV.2 h2
    refine jj_iconst (pc2 := 11) hC (-1) dX11_tied_10 (by decide) rfl ?_
    refine jj_goto hC 29 dX11_tied_11 (by decide) ?_
    exact jj_iret hC dX11_tied_29 ⟨hV, rfl⟩
theorem hi_X11_waitingNow_X11 : ∀ w ∈ u_ws RX11 TX11 63, w ∈ wsX11_waitingNow := fun _ h => List.mem_cons_of_mem _ (List.mem_append_right _ h)
theorem lk_X11_waitingNow_2 : Cond.fieldLink RX11 110 "PartedHouseModel" "waits" "[Z" ∈ wsX11_waitingNow := List.mem_of_getElem? (i := 2) rfl
theorem lk_X11_waitingNow_1 : Cond.fieldLink RX11 242 "PartedHouseModel" "sent" "I" ∈ wsX11_waitingNow := List.mem_of_getElem? (i := 1) rfl
abbrev rm_X11_waitingNow : Room := { frames := 0, cells := 0, slots := 0, locals := 0 }
def vr_waitingNow_4 (g0 : jm_M) (Post : Int32 → Prop) : Nat → Int32 → Int32 → Prop
  | 0, _, _ => False
  | f + 1, x1, x2 => (((g0 40 0) ≤ x2) → (Post x1)) ∧ ((¬ (g0 40 0) ≤ x2) → ((vp_in x2 2000) ∧ ((((g0 45 x2.toNatClampNeg) = 0) → (∀ y3 : Int32, y3 = x1 + 0 → (vr_waitingNow_4 g0 Post f y3 (x2 + 1)))) ∧ ((¬ (g0 45 x2.toNatClampNeg) = 0) → (∀ y4 : Int32, y4 = x1 + 1 → (vr_waitingNow_4 g0 Post f y4 (x2 + 1)))))))
def vr_waitingNow (g0 : jm_M) (Post : Int32 → Prop) : Prop := ∃ n5 : Nat, vr_waitingNow_4 g0 Post n5 0 0
set_option maxHeartbeats 4000000 in
set_option maxRecDepth 100000 in
theorem ar_waitingNow_4 {p : Program} {l : Launch} {e : Env} {s : State} {m : MethodId} {args : Array Value} {below : List Frame} {meth : Method} {c : Code} {D : va_G} {cs : Nat → ClassId} {Y X : va_W} {ad : Nat → Nat} {g0 : jm_M} (hC : JC p s m args meth c D vwCl (va_A (wr_d Y X cs ad g0) s.heap.size) 3 cX11_waitingNow (some .int) wsX11_waitingNow RX11 (jt_tys cs)) (Post : Int32 → Prop) : ∀ (f : Nat) (x1 : Int32) (x2 : Int32), vr_waitingNow_4 g0 Post f x1 x2 → JJ (wr_d Y X cs ad) p l e rm_X11_waitingNow s m args below meth c D vwCl (va_A (wr_d Y X cs ad g0) s.heap.size) 3 0 0 (MQ below (jj_QI (wr_d Y X cs ad) D vwCl (jt_tys cs) g0 s.heap.size (fun r g2 => Post r ∧ g2 = g0)) args s 0 0 (va_A (wr_d Y X cs ad g0) s.heap.size)) 4 [(0, .ref (ad 0)), (1, .int x1), (2, .int x2)] [] g0 := by
  intro f
  induction f with
  | zero => intro x1 x2 hV; exact hV.elim
  | succ f ih =>
    intro x1 x2 hV
    rw [vr_waitingNow_4] at hV
    refine jj_iload_n (pc2 := 5) hC dX11_waitingNow_4 rfl 2 rfl rfl ?_
    refine jj_aload_n (pc2 := 6) hC dX11_waitingNow_5 rfl 0 rfl rfl ?_
    refine rg_40 (pc2 := 9) hC hi_X11_waitingNow_X11 lk_X11_waitingNow_1 dX11_waitingNow_6 rfl ?_
    refine jj_icmp_ge (pc2 := 12) hC 35 dX11_waitingNow_9 (by decide) rfl (fun h1 => ?_) (fun h1 => ?_)
    · have hV := hV.1 h1
      refine jj_iload_n (pc2 := 36) hC dX11_waitingNow_35 rfl 1 rfl rfl ?_
      exact jj_iret hC dX11_waitingNow_36 ⟨hV, rfl⟩
    · have hV := hV.2 h1
      refine jj_iload_n (pc2 := 13) hC dX11_waitingNow_12 rfl 1 rfl rfl ?_
      refine jj_aload_n (pc2 := 14) hC dX11_waitingNow_13 rfl 0 rfl rfl ?_
      refine rg_45 (pc2 := 17) hC hi_X11_waitingNow_X11 lk_X11_waitingNow_2 dX11_waitingNow_14 rfl ?_
      refine jj_iload_n (pc2 := 18) hC dX11_waitingNow_17 rfl 2 rfl rfl ?_
      refine ra_45 (pc2 := 19) hC hV.1 dX11_waitingNow_18 rfl ?_
      have hV := hV.2
      refine jj_if_eq (pc2 := 22) hC 26 dX11_waitingNow_19 (by decide) rfl (fun h2 => ?_) (fun h2 => ?_)
      · have hV := hV.1 h2
        refine jj_iconst (pc2 := 27) hC 0 dX11_waitingNow_26 (by decide) rfl ?_
        refine jj_iadd (pc2 := 28) hC dX11_waitingNow_27 rfl ?_
        refine jj_topi (fun y3 ey3 => ?_)
        have hV := hV y3 ey3
        refine jj_istore_n (pc2 := 29) hC [(1, .int y3), (0, .ref (ad 0)), (2, .int x2)] dX11_waitingNow_28 rfl (by decide) rfl rfl ?_
        refine jj_iinc (pc2 := 32) hC (x2 + 1) [(2, .int (x2 + 1)), (1, .int y3), (0, .ref (ad 0))] dX11_waitingNow_29 2 rfl rfl (by decide) rfl rfl ?_
        refine jj_goto hC 4 dX11_waitingNow_32 (by decide) ?_
        exact jj_sub (lv2 := [(0, .ref (ad 0)), (1, .int y3), (2, .int (x2 + 1))]) [2, 1, 0] rfl (ih y3 (x2 + 1) hV)
      · have hV := hV.2 h2
        refine jj_iconst (pc2 := 23) hC 1 dX11_waitingNow_22 (by decide) rfl ?_
        refine jj_goto hC 27 dX11_waitingNow_23 (by decide) ?_
        refine jj_iadd (pc2 := 28) hC dX11_waitingNow_27 rfl ?_
        refine jj_topi (fun y4 ey4 => ?_)
        have hV := hV y4 ey4
        refine jj_istore_n (pc2 := 29) hC [(1, .int y4), (0, .ref (ad 0)), (2, .int x2)] dX11_waitingNow_28 rfl (by decide) rfl rfl ?_
        refine jj_iinc (pc2 := 32) hC (x2 + 1) [(2, .int (x2 + 1)), (1, .int y4), (0, .ref (ad 0))] dX11_waitingNow_29 2 rfl rfl (by decide) rfl rfl ?_
        refine jj_goto hC 4 dX11_waitingNow_32 (by decide) ?_
        exact jj_sub (lv2 := [(0, .ref (ad 0)), (1, .int y4), (2, .int (x2 + 1))]) [2, 1, 0] rfl (ih y4 (x2 + 1) hV)
set_option maxHeartbeats 4000000 in
set_option maxRecDepth 100000 in
theorem cr_waitingNow (l : Launch) (D : va_G) (cs : Nat → ClassId) (Y X : va_W) (ad : Nat → Nat) (g0 : jm_M) (Post : Int32 → Prop) (hV : vr_waitingNow g0 Post) : JI (wr_d Y X cs ad) D vwCl (jt_tys cs) l yX11_waitingNow wsX11_waitingNow rm_X11_waitingNow 0 0 [.ref (ad 0)] g0 (fun r g2 => Post r ∧ g2 = g0) := by
  refine jj_metI (cc := cX11_waitingNow) (nL := 3) (ret := (some .int)) (by decide) rfl (Nat.le_of_ble_eq_true rfl) [(0, .ref (ad 0))] rfl ?_
  intro p e s m args below meth c hC hnm
  rw [vr_waitingNow] at hV
  refine jj_iconst (pc2 := 1) hC 0 dX11_waitingNow_0 (by decide) rfl ?_
  refine jj_istore_n (pc2 := 2) hC [(1, .int 0), (0, .ref (ad 0))] dX11_waitingNow_1 rfl (by decide) rfl rfl ?_
  refine jj_iconst (pc2 := 3) hC 0 dX11_waitingNow_2 (by decide) rfl ?_
  refine jj_istore_n (pc2 := 4) hC [(2, .int 0), (1, .int 0), (0, .ref (ad 0))] dX11_waitingNow_3 rfl (by decide) rfl rfl ?_
  obtain ⟨n5, hV⟩ := hV
  refine jj_sub (lv2 := [(0, .ref (ad 0)), (1, .int 0), (2, .int 0)]) [2, 1, 0] rfl (ar_waitingNow_4 hC Post n5 0 0 hV)
theorem hi_X11_room_X11 : ∀ w ∈ u_ws RX11 TX11 63, w ∈ wsX11_room := fun _ h => List.mem_cons_of_mem _ (List.mem_append_right _ h)
theorem lk_X11_room_1 : Cond.fieldLink RX11 74 "PartedHouseModel" "room" "[I" ∈ wsX11_room := List.mem_of_getElem? (i := 1) rfl
abbrev rm_X11_room : Room := { frames := 2, cells := 0, slots := 0, locals := 43 }
def vr_room (a1 : Int32) (a2 : Int32) (g0 : jm_M) (Post : Int32 → jm_M → Prop) : Prop := vr_isModule a1 g0 (fun (r1 : Int32) => ((r1 = 0) → (Post (-1) g0)) ∧ ((¬ r1 = 0) → (vr_isRoom a2 g0 (fun (r3 : Int32) => ((¬ r3 = 0) → (vr_waitingNow g0 (fun (r5 : Int32) => ((r5 ≤ 0) → ((vp_in a1 10) ∧ (∀ y7 : Int32, y7 = g0 30 a1.toNatClampNeg → ((vp_in a1 10) ∧ (∀ g8 : jm_M, g8 = jm_a g0 30 a1 a2 → (Post y7 g8)))))) ∧ ((¬ r5 ≤ 0) → (Post (-2) g0))))) ∧ ((r3 = 0) → (Post (-1) g0))))))
set_option maxHeartbeats 4000000 in
set_option maxRecDepth 100000 in
theorem cr_room (l : Launch) (D : va_G) (cs : Nat → ClassId) (Y X : va_W) (ad : Nat → Nat) (a1 : Int32) (a2 : Int32) (g0 : jm_M) (Post : Int32 → jm_M → Prop) (hV : vr_room a1 a2 g0 Post) : JI (wr_d Y X cs ad) D vwCl (jt_tys cs) l yX11_room wsX11_room rm_X11_room 0 0 [.ref (ad 0), .int a1, .int a2] g0 Post := by
  refine jj_metI (cc := cX11_room) (nL := 4) (ret := (some .int)) (by decide) rfl (Nat.le_of_ble_eq_true rfl) [(0, .ref (ad 0)), (1, .int a1), (2, .int a2)] rfl ?_
  intro p e s m args below meth c hC hnm
  rw [vr_room] at hV
  refine jj_aload_n (pc2 := 1) hC dX11_room_0 rfl 0 rfl rfl ?_
  refine jj_iload_n (pc2 := 2) hC dX11_room_1 rfl 1 rfl rfl ?_
  refine jj_cVIp (pc2 := 5) (wd := wr_d Y X cs ad) (g := g0) (rest := []) hC (Y.length + 0) (jx_at (V := wr_W cs ad g0) rfl) rfl rfl (cr_isModule l D cs Y X ad a1 g0 _ hV) (cwV 1 hC.1.2.2.2.2 gX11_room_X11_isModule rfl rfl rfl (by decide +kernel) ⟨by decide, by decide⟩) rfl (Nat.le_of_ble_eq_true rfl) _ rfl dX11_room_2 ⟨Nat.zero_le _, Nat.zero_le _⟩ rfl (fun r1 hV => ?_)
  refine jj_if_eq (pc2 := 8) hC 15 dX11_room_5 (by decide) rfl (fun h2 => ?_) (fun h2 => ?_)
  · have hV := hV.1 h2
    refine jj_iconst (pc2 := 16) hC (-1) dX11_room_15 (by decide) rfl ?_
    exact jj_iret hC dX11_room_16 hV
  · have hV := hV.2 h2
    refine jj_iload_n (pc2 := 9) hC dX11_room_8 rfl 2 rfl rfl ?_
    refine jj_cSIp (pc2 := 12) (wd := wr_d Y X cs ad) (g := g0) (rest := []) hC (cr_isRoom l D cs Y X ad a2 g0 _ hV) (va_cwS 1 hC.1.2.2.2.2 gX11_room_X11_isRoom rfl rfl rfl (by decide +kernel) ⟨by decide, by decide⟩) rfl (Nat.le_of_ble_eq_true rfl) _ rfl dX11_room_9 ⟨Nat.zero_le _, Nat.zero_le _⟩ rfl (fun r3 hV => ?_)
    refine jj_if_ne (pc2 := 15) hC 17 dX11_room_12 (by decide) rfl (fun h4 => ?_) (fun h4 => ?_)
    · have hV := hV.1 h4
      refine jj_aload_n (pc2 := 18) hC dX11_room_17 rfl 0 rfl rfl ?_
      refine jj_cVIp (pc2 := 21) (wd := wr_d Y X cs ad) (g := g0) (rest := []) hC (Y.length + 0) (jx_at (V := wr_W cs ad g0) rfl) rfl rfl (cr_waitingNow l D cs Y X ad  g0 _ hV) (cwV 0 hC.1.2.2.2.2 gX11_room_X11_waitingNow rfl rfl rfl (by decide +kernel) ⟨by decide, by decide⟩) rfl (Nat.le_of_ble_eq_true rfl) _ rfl dX11_room_18 ⟨Nat.zero_le _, Nat.zero_le _⟩ rfl (fun r5 hV => ?_)
      refine jj_if_le (pc2 := 24) hC 27 dX11_room_21 (by decide) rfl (fun h6 => ?_) (fun h6 => ?_)
      · have hV := hV.1 h6
        refine jj_aload_n (pc2 := 28) hC dX11_room_27 rfl 0 rfl rfl ?_
        refine rg_30 (pc2 := 31) hC hi_X11_room_X11 lk_X11_room_1 dX11_room_28 rfl ?_
        refine jj_iload_n (pc2 := 32) hC dX11_room_31 rfl 1 rfl rfl ?_
        refine ra_30 (pc2 := 33) hC hV.1 dX11_room_32 rfl ?_
        have hV := hV.2
        refine jj_topi (fun y7 ey7 => ?_)
        have hV := hV y7 ey7
        refine jj_istore_n (pc2 := 34) hC [(3, .int y7), (0, .ref (ad 0)), (1, .int a1), (2, .int a2)] dX11_room_33 rfl (by decide) rfl rfl ?_
        refine jj_aload_n (pc2 := 35) hC dX11_room_34 rfl 1 rfl rfl ?_
        refine rg_30 (pc2 := 38) hC hi_X11_room_X11 lk_X11_room_1 dX11_room_35 rfl ?_
        refine jj_iload_n (pc2 := 39) hC dX11_room_38 rfl 2 rfl rfl ?_
        refine jj_iload_n (pc2 := 40) hC dX11_room_39 rfl 3 rfl rfl ?_
        refine rs_30 (pc2 := 41) hC hV.1 dX11_room_40 rfl (fun g8 eg8 => ?_)
        have hV := hV.2 g8 eg8
        refine jj_iload_n (pc2 := 42) hC dX11_room_41 rfl 0 rfl rfl ?_
        exact jj_iret hC dX11_room_42 hV
      · have hV := hV.2 h6
        refine jj_bipush (pc2 := 26) hC (-2) dX11_room_24 (by decide) rfl ?_
        exact jj_iret hC dX11_room_26 hV
    · have hV := hV.2 h4
      refine jj_iconst (pc2 := 16) hC (-1) dX11_room_15 (by decide) rfl ?_
      exact jj_iret hC dX11_room_16 hV
theorem hi_X11_weight_X11 : ∀ w ∈ u_ws RX11 TX11 63, w ∈ wsX11_weight := fun _ h => List.mem_cons_of_mem _ (List.mem_append_right _ h)
theorem lk_X11_weight_1 : Cond.fieldLink RX11 77 "PartedHouseModel" "weights" "[I" ∈ wsX11_weight := List.mem_of_getElem? (i := 1) rfl
abbrev rm_X11_weight : Room := { frames := 1, cells := 0, slots := 0, locals := 22 }
def vr_weight (a1 : Int32) (a2 : Int32) (g0 : jm_M) (Post : Int32 → jm_M → Prop) : Prop := vr_in a1 0 3 g0 (fun (r1 : Int32) => ((r1 = 0) → (Post (-1) g0)) ∧ ((¬ r1 = 0) → (vr_in a2 0 99 g0 (fun (r3 : Int32) => ((¬ r3 = 0) → ((vp_in a1 4) ∧ (∀ y5 : Int32, y5 = g0 31 a1.toNatClampNeg → ((vp_in a1 4) ∧ (∀ g6 : jm_M, g6 = jm_a g0 31 a1 a2 → (Post y5 g6)))))) ∧ ((r3 = 0) → (Post (-1) g0))))))
set_option maxHeartbeats 4000000 in
set_option maxRecDepth 100000 in
theorem cr_weight (l : Launch) (D : va_G) (cs : Nat → ClassId) (Y X : va_W) (ad : Nat → Nat) (a1 : Int32) (a2 : Int32) (g0 : jm_M) (Post : Int32 → jm_M → Prop) (hV : vr_weight a1 a2 g0 Post) : JI (wr_d Y X cs ad) D vwCl (jt_tys cs) l yX11_weight wsX11_weight rm_X11_weight 0 0 [.ref (ad 0), .int a1, .int a2] g0 Post := by
  refine jj_metI (cc := cX11_weight) (nL := 4) (ret := (some .int)) (by decide) rfl (Nat.le_of_ble_eq_true rfl) [(0, .ref (ad 0)), (1, .int a1), (2, .int a2)] rfl ?_
  intro p e s m args below meth c hC hnm
  rw [vr_weight] at hV
  refine jj_iload_n (pc2 := 1) hC dX11_weight_0 rfl 1 rfl rfl ?_
  refine jj_iconst (pc2 := 2) hC 0 dX11_weight_1 (by decide) rfl ?_
  refine jj_iconst (pc2 := 3) hC 3 dX11_weight_2 (by decide) rfl ?_
  refine jj_cSIp (pc2 := 6) (wd := wr_d Y X cs ad) (g := g0) (rest := []) hC (cr_in l D cs Y X ad a1 0 3 g0 _ hV) (va_cwS 3 hC.1.2.2.2.2 gX11_weight_X11_in rfl rfl rfl (by decide +kernel) ⟨by decide, by decide⟩) rfl (Nat.le_of_ble_eq_true rfl) _ rfl dX11_weight_3 ⟨Nat.zero_le _, Nat.zero_le _⟩ rfl (fun r1 hV => ?_)
  refine jj_if_eq (pc2 := 9) hC 19 dX11_weight_6 (by decide) rfl (fun h2 => ?_) (fun h2 => ?_)
  · have hV := hV.1 h2
    refine jj_iconst (pc2 := 20) hC (-1) dX11_weight_19 (by decide) rfl ?_
    exact jj_iret hC dX11_weight_20 hV
  · have hV := hV.2 h2
    refine jj_iload_n (pc2 := 10) hC dX11_weight_9 rfl 2 rfl rfl ?_
    refine jj_iconst (pc2 := 11) hC 0 dX11_weight_10 (by decide) rfl ?_
    refine jj_bipush (pc2 := 13) hC 99 dX11_weight_11 (by decide) rfl ?_
    refine jj_cSIp (pc2 := 16) (wd := wr_d Y X cs ad) (g := g0) (rest := []) hC (cr_in l D cs Y X ad a2 0 99 g0 _ hV) (va_cwS 3 hC.1.2.2.2.2 gX11_weight_X11_in rfl rfl rfl (by decide +kernel) ⟨by decide, by decide⟩) rfl (Nat.le_of_ble_eq_true rfl) _ rfl dX11_weight_13 ⟨Nat.zero_le _, Nat.zero_le _⟩ rfl (fun r3 hV => ?_)
    refine jj_if_ne (pc2 := 19) hC 21 dX11_weight_16 (by decide) rfl (fun h4 => ?_) (fun h4 => ?_)
    · have hV := hV.1 h4
      refine jj_aload_n (pc2 := 22) hC dX11_weight_21 rfl 0 rfl rfl ?_
      refine rg_31 (pc2 := 25) hC hi_X11_weight_X11 lk_X11_weight_1 dX11_weight_22 rfl ?_
      refine jj_iload_n (pc2 := 26) hC dX11_weight_25 rfl 1 rfl rfl ?_
      refine ra_31 (pc2 := 27) hC hV.1 dX11_weight_26 rfl ?_
      have hV := hV.2
      refine jj_topi (fun y5 ey5 => ?_)
      have hV := hV y5 ey5
      refine jj_istore_n (pc2 := 28) hC [(3, .int y5), (0, .ref (ad 0)), (1, .int a1), (2, .int a2)] dX11_weight_27 rfl (by decide) rfl rfl ?_
      refine jj_aload_n (pc2 := 29) hC dX11_weight_28 rfl 1 rfl rfl ?_
      refine rg_31 (pc2 := 32) hC hi_X11_weight_X11 lk_X11_weight_1 dX11_weight_29 rfl ?_
      refine jj_iload_n (pc2 := 33) hC dX11_weight_32 rfl 2 rfl rfl ?_
      refine jj_iload_n (pc2 := 34) hC dX11_weight_33 rfl 3 rfl rfl ?_
      refine rs_31 (pc2 := 35) hC hV.1 dX11_weight_34 rfl (fun g6 eg6 => ?_)
      have hV := hV.2 g6 eg6
      refine jj_iload_n (pc2 := 36) hC dX11_weight_35 rfl 0 rfl rfl ?_
      exact jj_iret hC dX11_weight_36 hV
    · have hV := hV.2 h4
      refine jj_iconst (pc2 := 20) hC (-1) dX11_weight_19 (by decide) rfl ?_
      exact jj_iret hC dX11_weight_20 hV
