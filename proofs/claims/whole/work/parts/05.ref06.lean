theorem hi_X11_restore_X11 : ∀ w ∈ u_ws RX11 TX11 63, w ∈ wsX11_restore := fun _ h => List.mem_cons_of_mem _ (List.mem_append_right _ h)
theorem lk_X11_restore_6 : Cond.fieldLink RX11 31 "PartedHouseModel" "old" "[I" ∈ wsX11_restore := List.mem_of_getElem? (i := 6) rfl
theorem lk_X11_restore_7 : Cond.fieldLink RX11 34 "PartedHouseModel" "fresh" "[I" ∈ wsX11_restore := List.mem_of_getElem? (i := 7) rfl
theorem lk_X11_restore_8 : Cond.fieldLink RX11 62 "PartedHouseModel" "calls" "[I" ∈ wsX11_restore := List.mem_of_getElem? (i := 8) rfl
theorem lk_X11_restore_9 : Cond.fieldLink RX11 65 "PartedHouseModel" "reads" "[I" ∈ wsX11_restore := List.mem_of_getElem? (i := 9) rfl
theorem lk_X11_restore_10 : Cond.fieldLink RX11 68 "PartedHouseModel" "writes" "[I" ∈ wsX11_restore := List.mem_of_getElem? (i := 10) rfl
theorem lk_X11_restore_11 : Cond.fieldLink RX11 71 "PartedHouseModel" "sets" "[I" ∈ wsX11_restore := List.mem_of_getElem? (i := 11) rfl
theorem lk_X11_restore_12 : Cond.fieldLink RX11 74 "PartedHouseModel" "room" "[I" ∈ wsX11_restore := List.mem_of_getElem? (i := 12) rfl
theorem lk_X11_restore_13 : Cond.fieldLink RX11 134 "PartedHouseModel" "unlike" "[I" ∈ wsX11_restore := List.mem_of_getElem? (i := 13) rfl
theorem lk_X11_restore_23 : Cond.fieldLink RX11 110 "PartedHouseModel" "waits" "[Z" ∈ wsX11_restore := List.mem_of_getElem? (i := 23) rfl
theorem lk_X11_restore_22 : Cond.fieldLink RX11 107 "PartedHouseModel" "letterTo" "[I" ∈ wsX11_restore := List.mem_of_getElem? (i := 22) rfl
theorem lk_X11_restore_21 : Cond.fieldLink RX11 104 "PartedHouseModel" "letterFrom" "[I" ∈ wsX11_restore := List.mem_of_getElem? (i := 21) rfl
theorem lk_X11_restore_20 : Cond.fieldLink RX11 101 "PartedHouseModel" "letterSays" "[I" ∈ wsX11_restore := List.mem_of_getElem? (i := 20) rfl
theorem lk_X11_restore_19 : Cond.fieldLink RX11 98 "PartedHouseModel" "letterCell" "[I" ∈ wsX11_restore := List.mem_of_getElem? (i := 19) rfl
theorem lk_X11_restore_18 : Cond.fieldLink RX11 242 "PartedHouseModel" "sent" "I" ∈ wsX11_restore := List.mem_of_getElem? (i := 18) rfl
theorem lk_X11_restore_17 : Cond.fieldLink RX11 245 "PartedHouseModel" "actsNew" "I" ∈ wsX11_restore := List.mem_of_getElem? (i := 17) rfl
theorem lk_X11_restore_16 : Cond.fieldLink RX11 193 "PartedHouseModel" "actsOld" "I" ∈ wsX11_restore := List.mem_of_getElem? (i := 16) rfl
theorem lk_X11_restore_15 : Cond.fieldLink RX11 287 "PartedHouseModel" "besides" "I" ∈ wsX11_restore := List.mem_of_getElem? (i := 15) rfl
theorem lk_X11_restore_14 : Cond.fieldLink RX11 290 "PartedHouseModel" "isUnlike" "Z" ∈ wsX11_restore := List.mem_of_getElem? (i := 14) rfl
theorem lk_X11_restore_1 : Cond.fieldLink RX11 296 "PartedHouseModel" "at" "I" ∈ wsX11_restore := List.mem_of_getElem? (i := 1) rfl
theorem lk_X11_restore_5 : Cond.fieldLink RX11 155 "PartedHouseModel" "tables" "I" ∈ wsX11_restore := List.mem_of_getElem? (i := 5) rfl
theorem lk_X11_restore_3 : Cond.fieldLink RX11 141 "PartedHouseModel" "image" "[I" ∈ wsX11_restore := List.mem_of_getElem? (i := 3) rfl
theorem lk_X11_restore_4 : Cond.fieldLink RX11 148 "PartedHouseModel" "modules" "I" ∈ wsX11_restore := List.mem_of_getElem? (i := 4) rfl
theorem lk_X11_restore_2 : Cond.fieldLink RX11 137 "PartedHouseModel" "hasImage" "[Z" ∈ wsX11_restore := List.mem_of_getElem? (i := 2) rfl
abbrev rm_X11_restore : Room := { frames := 1, cells := 0, slots := 0, locals := 22 }
def vr_restore_78 (K101 : jm_M → Prop) (Post : Int32 → jm_M → Prop) : Nat → Int32 → jm_M → Prop
  | 0, _, _ => False
  | f + 1, x2, g => ((128 ≤ x2) → (K101 g)) ∧ ((¬ 128 ≤ x2) → (vr_taken g (fun (r9 : Int32) (g10 : jm_M) => (vp_in x2 128) ∧ (∀ g11 : jm_M, g11 = jm_a g10 11 x2 r9 → (vr_restore_78 K101 Post f (x2 + 1) g11)))))
def vr_restore_103 (K126 : jm_M → Prop) (Post : Int32 → jm_M → Prop) : Nat → Int32 → jm_M → Prop
  | 0, _, _ => False
  | f + 1, x2, g => ((128 ≤ x2) → (K126 g)) ∧ ((¬ 128 ≤ x2) → (vr_taken g (fun (r14 : Int32) (g15 : jm_M) => (vp_in x2 128) ∧ (∀ g16 : jm_M, g16 = jm_a g15 12 x2 r14 → (vr_restore_103 K126 Post f (x2 + 1) g16)))))
def vr_restore_128 (K150 : jm_M → Prop) (Post : Int32 → jm_M → Prop) : Nat → Int32 → jm_M → Prop
  | 0, _, _ => False
  | f + 1, x2, g => ((100 ≤ x2) → (K150 g)) ∧ ((¬ 100 ≤ x2) → (vr_taken g (fun (r19 : Int32) (g20 : jm_M) => (vp_in x2 100) ∧ (∀ g21 : jm_M, g21 = jm_a g20 24 x2 r19 → (vr_restore_128 K150 Post f (x2 + 1) g21)))))
def vr_restore_152 (K175 : jm_M → Prop) (Post : Int32 → jm_M → Prop) : Nat → Int32 → jm_M → Prop
  | 0, _, _ => False
  | f + 1, x2, g => ((160 ≤ x2) → (K175 g)) ∧ ((¬ 160 ≤ x2) → (vr_taken g (fun (r24 : Int32) (g25 : jm_M) => (vp_in x2 160) ∧ (∀ g26 : jm_M, g26 = jm_a g25 25 x2 r24 → (vr_restore_152 K175 Post f (x2 + 1) g26)))))
def vr_restore_177 (K200 : jm_M → Prop) (Post : Int32 → jm_M → Prop) : Nat → Int32 → jm_M → Prop
  | 0, _, _ => False
  | f + 1, x2, g => ((160 ≤ x2) → (K200 g)) ∧ ((¬ 160 ≤ x2) → (vr_taken g (fun (r29 : Int32) (g30 : jm_M) => (vp_in x2 160) ∧ (∀ g31 : jm_M, g31 = jm_a g30 26 x2 r29 → (vr_restore_177 K200 Post f (x2 + 1) g31)))))
def vr_restore_202 (K225 : jm_M → Prop) (Post : Int32 → jm_M → Prop) : Nat → Int32 → jm_M → Prop
  | 0, _, _ => False
  | f + 1, x2, g => ((1024 ≤ x2) → (K225 g)) ∧ ((¬ 1024 ≤ x2) → (vr_taken g (fun (r34 : Int32) (g35 : jm_M) => (vp_in x2 1024) ∧ (∀ g36 : jm_M, g36 = jm_a g35 27 x2 r34 → (vr_restore_202 K225 Post f (x2 + 1) g36)))))
def vr_restore_227 (K249 : jm_M → Prop) (Post : Int32 → jm_M → Prop) : Nat → Int32 → jm_M → Prop
  | 0, _, _ => False
  | f + 1, x2, g => ((10 ≤ x2) → (K249 g)) ∧ ((¬ 10 ≤ x2) → (vr_taken g (fun (r39 : Int32) (g40 : jm_M) => (vp_in x2 10) ∧ (∀ g41 : jm_M, g41 = jm_a g40 30 x2 r39 → (vr_restore_227 K249 Post f (x2 + 1) g41)))))
def vr_restore_251 (K272 : jm_M → Prop) (Post : Int32 → jm_M → Prop) : Nat → Int32 → jm_M → Prop
  | 0, _, _ => False
  | f + 1, x2, g => ((5 ≤ x2) → (K272 g)) ∧ ((¬ 5 ≤ x2) → (vr_taken g (fun (r44 : Int32) (g45 : jm_M) => (vp_in x2 5) ∧ (∀ g46 : jm_M, g46 = jm_a g45 59 x2 r44 → (vr_restore_251 K272 Post f (x2 + 1) g46)))))
def vr_restore_323 (Post : Int32 → jm_M → Prop) : Nat → Int32 → jm_M → Prop
  | 0, _, _ => False
  | f + 1, x2, g => (((g 40 0) ≤ x2) → (Post 1 g)) ∧ ((¬ (g 40 0) ≤ x2) → (vr_taken g (fun (r65 : Int32) (g66 : jm_M) => (vp_in x2 2000) ∧ (∀ g67 : jm_M, g67 = jm_a g66 41 x2 r65 → (vr_taken g67 (fun (r68 : Int32) (g69 : jm_M) => (vp_in x2 2000) ∧ (∀ g70 : jm_M, g70 = jm_a g69 42 x2 r68 → (vr_taken g70 (fun (r71 : Int32) (g72 : jm_M) => (vp_in x2 2000) ∧ (∀ g73 : jm_M, g73 = jm_a g72 43 x2 r71 → (vr_taken g73 (fun (r74 : Int32) (g75 : jm_M) => (vp_in x2 2000) ∧ (∀ g76 : jm_M, g76 = jm_a g75 44 x2 r74 → (vr_taken g76 (fun (r77 : Int32) (g78 : jm_M) => ((¬ r77 = 1) → ((vp_in x2 2000) ∧ (∀ g80 : jm_M, g80 = jm_a g78 45 x2 0 → (vr_restore_323 Post f (x2 + 1) g80)))) ∧ ((r77 = 1) → ((vp_in x2 2000) ∧ (∀ g81 : jm_M, g81 = jm_a g78 45 x2 1 → (vr_restore_323 Post f (x2 + 1) g81)))))))))))))))))))
def vr_restore (a1 : Int32) (g0 : jm_M) (Post : Int32 → jm_M → Prop) : Prop := vr_in a1 0 3 g0 (fun (r1 : Int32) => ((¬ r1 = 0) → (∀ g3 : jm_M, g3 = jm_s g0 62 ((13400 : Int32) * a1) → ((vp_in a1 4) ∧ ((((g3 60 a1.toNatClampNeg) = 0) → (Post (-2) g3)) ∧ ((¬ (g3 60 a1.toNatClampNeg) = 0) → ((vp_in (g3 62 0) 53600) ∧ (((¬ (g3 61 (g3 62 0).toNatClampNeg) = (g3 1 0)) → (Post (-2) g3)) ∧ (((g3 61 (g3 62 0).toNatClampNeg) = (g3 1 0)) → ((vp_in ((g3 62 0) + 1) 53600) ∧ ((((g3 61 ((g3 62 0) + 1).toNatClampNeg) = (g3 3 0)) → (∀ g7 : jm_M, g7 = jm_s g3 62 ((g3 62 0) + 2) → (∃ n104 : Nat, vr_restore_78 (fun (g12 : jm_M) => ∃ n103 : Nat, vr_restore_103 (fun (g17 : jm_M) => ∃ n102 : Nat, vr_restore_128 (fun (g22 : jm_M) => ∃ n101 : Nat, vr_restore_152 (fun (g27 : jm_M) => ∃ n100 : Nat, vr_restore_177 (fun (g32 : jm_M) => ∃ n99 : Nat, vr_restore_202 (fun (g37 : jm_M) => ∃ n98 : Nat, vr_restore_227 (fun (g42 : jm_M) => ∃ n97 : Nat, vr_restore_251 (fun (g47 : jm_M) => vr_taken g47 (fun (r48 : Int32) (g49 : jm_M) => ((¬ r48 = 1) → (∀ g51 : jm_M, g51 = jm_s g49 58 0 → (vr_taken g51 (fun (r52 : Int32) (g53 : jm_M) => ∀ g54 : jm_M, g54 = jm_s g53 57 r52 → (vr_taken g54 (fun (r55 : Int32) (g56 : jm_M) => ∀ g57 : jm_M, g57 = jm_s g56 28 r55 → (vr_taken g57 (fun (r58 : Int32) (g59 : jm_M) => ∀ g60 : jm_M, g60 = jm_s g59 29 r58 → (vr_taken g60 (fun (r61 : Int32) (g62 : jm_M) => ∀ g63 : jm_M, g63 = jm_s g62 40 r61 → (∃ n82 : Nat, vr_restore_323 Post n82 0 g63))))))))))) ∧ ((r48 = 1) → (∀ g83 : jm_M, g83 = jm_s g49 58 1 → (vr_taken g83 (fun (r84 : Int32) (g85 : jm_M) => ∀ g86 : jm_M, g86 = jm_s g85 57 r84 → (vr_taken g86 (fun (r87 : Int32) (g88 : jm_M) => ∀ g89 : jm_M, g89 = jm_s g88 28 r87 → (vr_taken g89 (fun (r90 : Int32) (g91 : jm_M) => ∀ g92 : jm_M, g92 = jm_s g91 29 r90 → (vr_taken g92 (fun (r93 : Int32) (g94 : jm_M) => ∀ g95 : jm_M, g95 = jm_s g94 40 r93 → (∃ n96 : Nat, vr_restore_323 Post n96 0 g95))))))))))))) Post n97 0 g42) Post n98 0 g37) Post n99 0 g32) Post n100 0 g27) Post n101 0 g22) Post n102 0 g17) Post n103 0 g12) Post n104 0 g7))) ∧ ((¬ (g3 61 ((g3 62 0) + 1).toNatClampNeg) = (g3 3 0)) → (Post (-2) g3)))))))))))) ∧ ((r1 = 0) → (Post (-1) g0)))
set_option maxHeartbeats 4000000 in
set_option maxRecDepth 100000 in
theorem ar_restore_78 {p : Program} {l : Launch} {e : Env} {s : State} {m : MethodId} {args : Array Value} {below : List Frame} {meth : Method} {c : Code} {D : va_G} {cs : Nat → ClassId} {Y X : va_W} {ad : Nat → Nat} {g0 : jm_M} (hC : JC p s m args meth c D vwCl (va_A (wr_d Y X cs ad g0) s.heap.size) 3 cX11_restore (some .int) wsX11_restore RX11 (jt_tys cs)) (Post : Int32 → jm_M → Prop) (K101 : jm_M → Prop) (hK101 : ∀ (g : jm_M) , K101 g → JJ (wr_d Y X cs ad) p l e rm_X11_restore s m args below meth c D vwCl (va_A (wr_d Y X cs ad g0) s.heap.size) 3 0 0 (MQ below (jj_QI (wr_d Y X cs ad) D vwCl (jt_tys cs) g0 s.heap.size Post) args s 0 0 (va_A (wr_d Y X cs ad g0) s.heap.size)) 101 [(0, .ref (ad 0))] [] g) : ∀ (f : Nat) (x2 : Int32) (g : jm_M), vr_restore_78 K101 Post f x2 g → JJ (wr_d Y X cs ad) p l e rm_X11_restore s m args below meth c D vwCl (va_A (wr_d Y X cs ad g0) s.heap.size) 3 0 0 (MQ below (jj_QI (wr_d Y X cs ad) D vwCl (jt_tys cs) g0 s.heap.size Post) args s 0 0 (va_A (wr_d Y X cs ad g0) s.heap.size)) 78 [(0, .ref (ad 0)), (2, .int x2)] [] g := by
  intro f
  induction f with
  | zero => intro x2 g hV; exact hV.elim
  | succ f ih =>
    intro x2 g hV
    rw [vr_restore_78] at hV
    refine jj_iload_n (pc2 := 79) hC dX11_restore_78 rfl 1 rfl rfl ?_
    refine jj_sipush (pc2 := 82) hC 128 dX11_restore_79 (by decide) rfl ?_
    refine jj_icmp_ge (pc2 := 85) hC 101 dX11_restore_82 (by decide) rfl (fun h8 => ?_) (fun h8 => ?_)
    · have hV := hV.1 h8
      exact jj_sub (lv2 := [(0, .ref (ad 0))]) [0] rfl (hK101 g hV)
    · have hV := hV.2 h8
      refine jj_aload_n (pc2 := 86) hC dX11_restore_85 rfl 0 rfl rfl ?_
      refine rg_11 (pc2 := 89) hC hi_X11_restore_X11 lk_X11_restore_6 dX11_restore_86 rfl ?_
      refine jj_iload_n (pc2 := 90) hC dX11_restore_89 rfl 1 rfl rfl ?_
      refine jj_aload_n (pc2 := 91) hC dX11_restore_90 rfl 0 rfl rfl ?_
      refine jj_cVI (pc2 := 94) (wd := wr_d Y X cs ad) (g := g) (rest := [.int x2, .ref (ad 12)]) hC (Y.length + 0) (jx_at (V := wr_W cs ad g) rfl) rfl rfl (cr_taken l D cs Y X ad  g _ hV) (cwV 0 hC.1.2.2.2.2 gX11_restore_X11_taken rfl rfl rfl (by decide +kernel) ⟨by decide, by decide⟩) rfl (Nat.le_of_ble_eq_true rfl) _ rfl dX11_restore_91 ⟨Nat.zero_le _, Nat.zero_le _⟩ rfl (fun r9 g10 hV => ?_)
      refine rs_11 (pc2 := 95) hC hV.1 dX11_restore_94 rfl (fun g11 eg11 => ?_)
      have hV := hV.2 g11 eg11
      refine jj_iinc (pc2 := 98) hC (x2 + 1) [(2, .int (x2 + 1)), (0, .ref (ad 0))] dX11_restore_95 1 rfl rfl (by decide) rfl rfl ?_
      refine jj_goto hC 78 dX11_restore_98 (by decide) ?_
      exact jj_sub (lv2 := [(0, .ref (ad 0)), (2, .int (x2 + 1))]) [1, 0] rfl (ih (x2 + 1) g11 hV)
set_option maxHeartbeats 4000000 in
set_option maxRecDepth 100000 in
theorem ar_restore_103 {p : Program} {l : Launch} {e : Env} {s : State} {m : MethodId} {args : Array Value} {below : List Frame} {meth : Method} {c : Code} {D : va_G} {cs : Nat → ClassId} {Y X : va_W} {ad : Nat → Nat} {g0 : jm_M} (hC : JC p s m args meth c D vwCl (va_A (wr_d Y X cs ad g0) s.heap.size) 3 cX11_restore (some .int) wsX11_restore RX11 (jt_tys cs)) (Post : Int32 → jm_M → Prop) (K126 : jm_M → Prop) (hK126 : ∀ (g : jm_M) , K126 g → JJ (wr_d Y X cs ad) p l e rm_X11_restore s m args below meth c D vwCl (va_A (wr_d Y X cs ad g0) s.heap.size) 3 0 0 (MQ below (jj_QI (wr_d Y X cs ad) D vwCl (jt_tys cs) g0 s.heap.size Post) args s 0 0 (va_A (wr_d Y X cs ad g0) s.heap.size)) 126 [(0, .ref (ad 0))] [] g) : ∀ (f : Nat) (x2 : Int32) (g : jm_M), vr_restore_103 K126 Post f x2 g → JJ (wr_d Y X cs ad) p l e rm_X11_restore s m args below meth c D vwCl (va_A (wr_d Y X cs ad g0) s.heap.size) 3 0 0 (MQ below (jj_QI (wr_d Y X cs ad) D vwCl (jt_tys cs) g0 s.heap.size Post) args s 0 0 (va_A (wr_d Y X cs ad g0) s.heap.size)) 103 [(0, .ref (ad 0)), (2, .int x2)] [] g := by
  intro f
  induction f with
  | zero => intro x2 g hV; exact hV.elim
  | succ f ih =>
    intro x2 g hV
    rw [vr_restore_103] at hV
    refine jj_iload_n (pc2 := 104) hC dX11_restore_103 rfl 1 rfl rfl ?_
    refine jj_sipush (pc2 := 107) hC 128 dX11_restore_104 (by decide) rfl ?_
    refine jj_icmp_ge (pc2 := 110) hC 126 dX11_restore_107 (by decide) rfl (fun h13 => ?_) (fun h13 => ?_)
    · have hV := hV.1 h13
      exact jj_sub (lv2 := [(0, .ref (ad 0))]) [0] rfl (hK126 g hV)
    · have hV := hV.2 h13
      refine jj_aload_n (pc2 := 111) hC dX11_restore_110 rfl 0 rfl rfl ?_
      refine rg_12 (pc2 := 114) hC hi_X11_restore_X11 lk_X11_restore_7 dX11_restore_111 rfl ?_
      refine jj_iload_n (pc2 := 115) hC dX11_restore_114 rfl 1 rfl rfl ?_
      refine jj_aload_n (pc2 := 116) hC dX11_restore_115 rfl 0 rfl rfl ?_
      refine jj_cVI (pc2 := 119) (wd := wr_d Y X cs ad) (g := g) (rest := [.int x2, .ref (ad 13)]) hC (Y.length + 0) (jx_at (V := wr_W cs ad g) rfl) rfl rfl (cr_taken l D cs Y X ad  g _ hV) (cwV 0 hC.1.2.2.2.2 gX11_restore_X11_taken rfl rfl rfl (by decide +kernel) ⟨by decide, by decide⟩) rfl (Nat.le_of_ble_eq_true rfl) _ rfl dX11_restore_116 ⟨Nat.zero_le _, Nat.zero_le _⟩ rfl (fun r14 g15 hV => ?_)
      refine rs_12 (pc2 := 120) hC hV.1 dX11_restore_119 rfl (fun g16 eg16 => ?_)
      have hV := hV.2 g16 eg16
      refine jj_iinc (pc2 := 123) hC (x2 + 1) [(2, .int (x2 + 1)), (0, .ref (ad 0))] dX11_restore_120 1 rfl rfl (by decide) rfl rfl ?_
      refine jj_goto hC 103 dX11_restore_123 (by decide) ?_
      exact jj_sub (lv2 := [(0, .ref (ad 0)), (2, .int (x2 + 1))]) [1, 0] rfl (ih (x2 + 1) g16 hV)
set_option maxHeartbeats 4000000 in
set_option maxRecDepth 100000 in
theorem ar_restore_128 {p : Program} {l : Launch} {e : Env} {s : State} {m : MethodId} {args : Array Value} {below : List Frame} {meth : Method} {c : Code} {D : va_G} {cs : Nat → ClassId} {Y X : va_W} {ad : Nat → Nat} {g0 : jm_M} (hC : JC p s m args meth c D vwCl (va_A (wr_d Y X cs ad g0) s.heap.size) 3 cX11_restore (some .int) wsX11_restore RX11 (jt_tys cs)) (Post : Int32 → jm_M → Prop) (K150 : jm_M → Prop) (hK150 : ∀ (g : jm_M) , K150 g → JJ (wr_d Y X cs ad) p l e rm_X11_restore s m args below meth c D vwCl (va_A (wr_d Y X cs ad g0) s.heap.size) 3 0 0 (MQ below (jj_QI (wr_d Y X cs ad) D vwCl (jt_tys cs) g0 s.heap.size Post) args s 0 0 (va_A (wr_d Y X cs ad g0) s.heap.size)) 150 [(0, .ref (ad 0))] [] g) : ∀ (f : Nat) (x2 : Int32) (g : jm_M), vr_restore_128 K150 Post f x2 g → JJ (wr_d Y X cs ad) p l e rm_X11_restore s m args below meth c D vwCl (va_A (wr_d Y X cs ad g0) s.heap.size) 3 0 0 (MQ below (jj_QI (wr_d Y X cs ad) D vwCl (jt_tys cs) g0 s.heap.size Post) args s 0 0 (va_A (wr_d Y X cs ad g0) s.heap.size)) 128 [(0, .ref (ad 0)), (2, .int x2)] [] g := by
  intro f
  induction f with
  | zero => intro x2 g hV; exact hV.elim
  | succ f ih =>
    intro x2 g hV
    rw [vr_restore_128] at hV
    refine jj_iload_n (pc2 := 129) hC dX11_restore_128 rfl 1 rfl rfl ?_
    refine jj_bipush (pc2 := 131) hC 100 dX11_restore_129 (by decide) rfl ?_
    refine jj_icmp_ge (pc2 := 134) hC 150 dX11_restore_131 (by decide) rfl (fun h18 => ?_) (fun h18 => ?_)
    · have hV := hV.1 h18
      exact jj_sub (lv2 := [(0, .ref (ad 0))]) [0] rfl (hK150 g hV)
    · have hV := hV.2 h18
      refine jj_aload_n (pc2 := 135) hC dX11_restore_134 rfl 0 rfl rfl ?_
      refine rg_24 (pc2 := 138) hC hi_X11_restore_X11 lk_X11_restore_8 dX11_restore_135 rfl ?_
      refine jj_iload_n (pc2 := 139) hC dX11_restore_138 rfl 1 rfl rfl ?_
      refine jj_aload_n (pc2 := 140) hC dX11_restore_139 rfl 0 rfl rfl ?_
      refine jj_cVI (pc2 := 143) (wd := wr_d Y X cs ad) (g := g) (rest := [.int x2, .ref (ad 25)]) hC (Y.length + 0) (jx_at (V := wr_W cs ad g) rfl) rfl rfl (cr_taken l D cs Y X ad  g _ hV) (cwV 0 hC.1.2.2.2.2 gX11_restore_X11_taken rfl rfl rfl (by decide +kernel) ⟨by decide, by decide⟩) rfl (Nat.le_of_ble_eq_true rfl) _ rfl dX11_restore_140 ⟨Nat.zero_le _, Nat.zero_le _⟩ rfl (fun r19 g20 hV => ?_)
      refine rs_24 (pc2 := 144) hC hV.1 dX11_restore_143 rfl (fun g21 eg21 => ?_)
      have hV := hV.2 g21 eg21
      refine jj_iinc (pc2 := 147) hC (x2 + 1) [(2, .int (x2 + 1)), (0, .ref (ad 0))] dX11_restore_144 1 rfl rfl (by decide) rfl rfl ?_
      refine jj_goto hC 128 dX11_restore_147 (by decide) ?_
      exact jj_sub (lv2 := [(0, .ref (ad 0)), (2, .int (x2 + 1))]) [1, 0] rfl (ih (x2 + 1) g21 hV)
set_option maxHeartbeats 4000000 in
set_option maxRecDepth 100000 in
theorem ar_restore_152 {p : Program} {l : Launch} {e : Env} {s : State} {m : MethodId} {args : Array Value} {below : List Frame} {meth : Method} {c : Code} {D : va_G} {cs : Nat → ClassId} {Y X : va_W} {ad : Nat → Nat} {g0 : jm_M} (hC : JC p s m args meth c D vwCl (va_A (wr_d Y X cs ad g0) s.heap.size) 3 cX11_restore (some .int) wsX11_restore RX11 (jt_tys cs)) (Post : Int32 → jm_M → Prop) (K175 : jm_M → Prop) (hK175 : ∀ (g : jm_M) , K175 g → JJ (wr_d Y X cs ad) p l e rm_X11_restore s m args below meth c D vwCl (va_A (wr_d Y X cs ad g0) s.heap.size) 3 0 0 (MQ below (jj_QI (wr_d Y X cs ad) D vwCl (jt_tys cs) g0 s.heap.size Post) args s 0 0 (va_A (wr_d Y X cs ad g0) s.heap.size)) 175 [(0, .ref (ad 0))] [] g) : ∀ (f : Nat) (x2 : Int32) (g : jm_M), vr_restore_152 K175 Post f x2 g → JJ (wr_d Y X cs ad) p l e rm_X11_restore s m args below meth c D vwCl (va_A (wr_d Y X cs ad g0) s.heap.size) 3 0 0 (MQ below (jj_QI (wr_d Y X cs ad) D vwCl (jt_tys cs) g0 s.heap.size Post) args s 0 0 (va_A (wr_d Y X cs ad g0) s.heap.size)) 152 [(0, .ref (ad 0)), (2, .int x2)] [] g := by
  intro f
  induction f with
  | zero => intro x2 g hV; exact hV.elim
  | succ f ih =>
    intro x2 g hV
    rw [vr_restore_152] at hV
    refine jj_iload_n (pc2 := 153) hC dX11_restore_152 rfl 1 rfl rfl ?_
    refine jj_sipush (pc2 := 156) hC 160 dX11_restore_153 (by decide) rfl ?_
    refine jj_icmp_ge (pc2 := 159) hC 175 dX11_restore_156 (by decide) rfl (fun h23 => ?_) (fun h23 => ?_)
    · have hV := hV.1 h23
      exact jj_sub (lv2 := [(0, .ref (ad 0))]) [0] rfl (hK175 g hV)
    · have hV := hV.2 h23
      refine jj_aload_n (pc2 := 160) hC dX11_restore_159 rfl 0 rfl rfl ?_
      refine rg_25 (pc2 := 163) hC hi_X11_restore_X11 lk_X11_restore_9 dX11_restore_160 rfl ?_
      refine jj_iload_n (pc2 := 164) hC dX11_restore_163 rfl 1 rfl rfl ?_
      refine jj_aload_n (pc2 := 165) hC dX11_restore_164 rfl 0 rfl rfl ?_
      refine jj_cVI (pc2 := 168) (wd := wr_d Y X cs ad) (g := g) (rest := [.int x2, .ref (ad 26)]) hC (Y.length + 0) (jx_at (V := wr_W cs ad g) rfl) rfl rfl (cr_taken l D cs Y X ad  g _ hV) (cwV 0 hC.1.2.2.2.2 gX11_restore_X11_taken rfl rfl rfl (by decide +kernel) ⟨by decide, by decide⟩) rfl (Nat.le_of_ble_eq_true rfl) _ rfl dX11_restore_165 ⟨Nat.zero_le _, Nat.zero_le _⟩ rfl (fun r24 g25 hV => ?_)
      refine rs_25 (pc2 := 169) hC hV.1 dX11_restore_168 rfl (fun g26 eg26 => ?_)
      have hV := hV.2 g26 eg26
      refine jj_iinc (pc2 := 172) hC (x2 + 1) [(2, .int (x2 + 1)), (0, .ref (ad 0))] dX11_restore_169 1 rfl rfl (by decide) rfl rfl ?_
      refine jj_goto hC 152 dX11_restore_172 (by decide) ?_
      exact jj_sub (lv2 := [(0, .ref (ad 0)), (2, .int (x2 + 1))]) [1, 0] rfl (ih (x2 + 1) g26 hV)
set_option maxHeartbeats 4000000 in
set_option maxRecDepth 100000 in
theorem ar_restore_177 {p : Program} {l : Launch} {e : Env} {s : State} {m : MethodId} {args : Array Value} {below : List Frame} {meth : Method} {c : Code} {D : va_G} {cs : Nat → ClassId} {Y X : va_W} {ad : Nat → Nat} {g0 : jm_M} (hC : JC p s m args meth c D vwCl (va_A (wr_d Y X cs ad g0) s.heap.size) 3 cX11_restore (some .int) wsX11_restore RX11 (jt_tys cs)) (Post : Int32 → jm_M → Prop) (K200 : jm_M → Prop) (hK200 : ∀ (g : jm_M) , K200 g → JJ (wr_d Y X cs ad) p l e rm_X11_restore s m args below meth c D vwCl (va_A (wr_d Y X cs ad g0) s.heap.size) 3 0 0 (MQ below (jj_QI (wr_d Y X cs ad) D vwCl (jt_tys cs) g0 s.heap.size Post) args s 0 0 (va_A (wr_d Y X cs ad g0) s.heap.size)) 200 [(0, .ref (ad 0))] [] g) : ∀ (f : Nat) (x2 : Int32) (g : jm_M), vr_restore_177 K200 Post f x2 g → JJ (wr_d Y X cs ad) p l e rm_X11_restore s m args below meth c D vwCl (va_A (wr_d Y X cs ad g0) s.heap.size) 3 0 0 (MQ below (jj_QI (wr_d Y X cs ad) D vwCl (jt_tys cs) g0 s.heap.size Post) args s 0 0 (va_A (wr_d Y X cs ad g0) s.heap.size)) 177 [(0, .ref (ad 0)), (2, .int x2)] [] g := by
  intro f
  induction f with
  | zero => intro x2 g hV; exact hV.elim
  | succ f ih =>
    intro x2 g hV
    rw [vr_restore_177] at hV
    refine jj_iload_n (pc2 := 178) hC dX11_restore_177 rfl 1 rfl rfl ?_
    refine jj_sipush (pc2 := 181) hC 160 dX11_restore_178 (by decide) rfl ?_
    refine jj_icmp_ge (pc2 := 184) hC 200 dX11_restore_181 (by decide) rfl (fun h28 => ?_) (fun h28 => ?_)
    · have hV := hV.1 h28
      exact jj_sub (lv2 := [(0, .ref (ad 0))]) [0] rfl (hK200 g hV)
    · have hV := hV.2 h28
      refine jj_aload_n (pc2 := 185) hC dX11_restore_184 rfl 0 rfl rfl ?_
      refine rg_26 (pc2 := 188) hC hi_X11_restore_X11 lk_X11_restore_10 dX11_restore_185 rfl ?_
      refine jj_iload_n (pc2 := 189) hC dX11_restore_188 rfl 1 rfl rfl ?_
      refine jj_aload_n (pc2 := 190) hC dX11_restore_189 rfl 0 rfl rfl ?_
      refine jj_cVI (pc2 := 193) (wd := wr_d Y X cs ad) (g := g) (rest := [.int x2, .ref (ad 27)]) hC (Y.length + 0) (jx_at (V := wr_W cs ad g) rfl) rfl rfl (cr_taken l D cs Y X ad  g _ hV) (cwV 0 hC.1.2.2.2.2 gX11_restore_X11_taken rfl rfl rfl (by decide +kernel) ⟨by decide, by decide⟩) rfl (Nat.le_of_ble_eq_true rfl) _ rfl dX11_restore_190 ⟨Nat.zero_le _, Nat.zero_le _⟩ rfl (fun r29 g30 hV => ?_)
      refine rs_26 (pc2 := 194) hC hV.1 dX11_restore_193 rfl (fun g31 eg31 => ?_)
      have hV := hV.2 g31 eg31
      refine jj_iinc (pc2 := 197) hC (x2 + 1) [(2, .int (x2 + 1)), (0, .ref (ad 0))] dX11_restore_194 1 rfl rfl (by decide) rfl rfl ?_
      refine jj_goto hC 177 dX11_restore_197 (by decide) ?_
      exact jj_sub (lv2 := [(0, .ref (ad 0)), (2, .int (x2 + 1))]) [1, 0] rfl (ih (x2 + 1) g31 hV)
set_option maxHeartbeats 4000000 in
set_option maxRecDepth 100000 in
theorem ar_restore_202 {p : Program} {l : Launch} {e : Env} {s : State} {m : MethodId} {args : Array Value} {below : List Frame} {meth : Method} {c : Code} {D : va_G} {cs : Nat → ClassId} {Y X : va_W} {ad : Nat → Nat} {g0 : jm_M} (hC : JC p s m args meth c D vwCl (va_A (wr_d Y X cs ad g0) s.heap.size) 3 cX11_restore (some .int) wsX11_restore RX11 (jt_tys cs)) (Post : Int32 → jm_M → Prop) (K225 : jm_M → Prop) (hK225 : ∀ (g : jm_M) , K225 g → JJ (wr_d Y X cs ad) p l e rm_X11_restore s m args below meth c D vwCl (va_A (wr_d Y X cs ad g0) s.heap.size) 3 0 0 (MQ below (jj_QI (wr_d Y X cs ad) D vwCl (jt_tys cs) g0 s.heap.size Post) args s 0 0 (va_A (wr_d Y X cs ad g0) s.heap.size)) 225 [(0, .ref (ad 0))] [] g) : ∀ (f : Nat) (x2 : Int32) (g : jm_M), vr_restore_202 K225 Post f x2 g → JJ (wr_d Y X cs ad) p l e rm_X11_restore s m args below meth c D vwCl (va_A (wr_d Y X cs ad g0) s.heap.size) 3 0 0 (MQ below (jj_QI (wr_d Y X cs ad) D vwCl (jt_tys cs) g0 s.heap.size Post) args s 0 0 (va_A (wr_d Y X cs ad g0) s.heap.size)) 202 [(0, .ref (ad 0)), (2, .int x2)] [] g := by
  intro f
  induction f with
  | zero => intro x2 g hV; exact hV.elim
  | succ f ih =>
    intro x2 g hV
    rw [vr_restore_202] at hV
    refine jj_iload_n (pc2 := 203) hC dX11_restore_202 rfl 1 rfl rfl ?_
    refine jj_sipush (pc2 := 206) hC 1024 dX11_restore_203 (by decide) rfl ?_
    refine jj_icmp_ge (pc2 := 209) hC 225 dX11_restore_206 (by decide) rfl (fun h33 => ?_) (fun h33 => ?_)
    · have hV := hV.1 h33
      exact jj_sub (lv2 := [(0, .ref (ad 0))]) [0] rfl (hK225 g hV)
    · have hV := hV.2 h33
      refine jj_aload_n (pc2 := 210) hC dX11_restore_209 rfl 0 rfl rfl ?_
      refine rg_27 (pc2 := 213) hC hi_X11_restore_X11 lk_X11_restore_11 dX11_restore_210 rfl ?_
      refine jj_iload_n (pc2 := 214) hC dX11_restore_213 rfl 1 rfl rfl ?_
      refine jj_aload_n (pc2 := 215) hC dX11_restore_214 rfl 0 rfl rfl ?_
      refine jj_cVI (pc2 := 218) (wd := wr_d Y X cs ad) (g := g) (rest := [.int x2, .ref (ad 28)]) hC (Y.length + 0) (jx_at (V := wr_W cs ad g) rfl) rfl rfl (cr_taken l D cs Y X ad  g _ hV) (cwV 0 hC.1.2.2.2.2 gX11_restore_X11_taken rfl rfl rfl (by decide +kernel) ⟨by decide, by decide⟩) rfl (Nat.le_of_ble_eq_true rfl) _ rfl dX11_restore_215 ⟨Nat.zero_le _, Nat.zero_le _⟩ rfl (fun r34 g35 hV => ?_)
      refine rs_27 (pc2 := 219) hC hV.1 dX11_restore_218 rfl (fun g36 eg36 => ?_)
      have hV := hV.2 g36 eg36
      refine jj_iinc (pc2 := 222) hC (x2 + 1) [(2, .int (x2 + 1)), (0, .ref (ad 0))] dX11_restore_219 1 rfl rfl (by decide) rfl rfl ?_
      refine jj_goto hC 202 dX11_restore_222 (by decide) ?_
      exact jj_sub (lv2 := [(0, .ref (ad 0)), (2, .int (x2 + 1))]) [1, 0] rfl (ih (x2 + 1) g36 hV)
set_option maxHeartbeats 4000000 in
set_option maxRecDepth 100000 in
theorem ar_restore_227 {p : Program} {l : Launch} {e : Env} {s : State} {m : MethodId} {args : Array Value} {below : List Frame} {meth : Method} {c : Code} {D : va_G} {cs : Nat → ClassId} {Y X : va_W} {ad : Nat → Nat} {g0 : jm_M} (hC : JC p s m args meth c D vwCl (va_A (wr_d Y X cs ad g0) s.heap.size) 3 cX11_restore (some .int) wsX11_restore RX11 (jt_tys cs)) (Post : Int32 → jm_M → Prop) (K249 : jm_M → Prop) (hK249 : ∀ (g : jm_M) , K249 g → JJ (wr_d Y X cs ad) p l e rm_X11_restore s m args below meth c D vwCl (va_A (wr_d Y X cs ad g0) s.heap.size) 3 0 0 (MQ below (jj_QI (wr_d Y X cs ad) D vwCl (jt_tys cs) g0 s.heap.size Post) args s 0 0 (va_A (wr_d Y X cs ad g0) s.heap.size)) 249 [(0, .ref (ad 0))] [] g) : ∀ (f : Nat) (x2 : Int32) (g : jm_M), vr_restore_227 K249 Post f x2 g → JJ (wr_d Y X cs ad) p l e rm_X11_restore s m args below meth c D vwCl (va_A (wr_d Y X cs ad g0) s.heap.size) 3 0 0 (MQ below (jj_QI (wr_d Y X cs ad) D vwCl (jt_tys cs) g0 s.heap.size Post) args s 0 0 (va_A (wr_d Y X cs ad g0) s.heap.size)) 227 [(0, .ref (ad 0)), (2, .int x2)] [] g := by
  intro f
  induction f with
  | zero => intro x2 g hV; exact hV.elim
  | succ f ih =>
    intro x2 g hV
    rw [vr_restore_227] at hV
    refine jj_iload_n (pc2 := 228) hC dX11_restore_227 rfl 1 rfl rfl ?_
    refine jj_bipush (pc2 := 230) hC 10 dX11_restore_228 (by decide) rfl ?_
    refine jj_icmp_ge (pc2 := 233) hC 249 dX11_restore_230 (by decide) rfl (fun h38 => ?_) (fun h38 => ?_)
    · have hV := hV.1 h38
      exact jj_sub (lv2 := [(0, .ref (ad 0))]) [0] rfl (hK249 g hV)
    · have hV := hV.2 h38
      refine jj_aload_n (pc2 := 234) hC dX11_restore_233 rfl 0 rfl rfl ?_
      refine rg_30 (pc2 := 237) hC hi_X11_restore_X11 lk_X11_restore_12 dX11_restore_234 rfl ?_
      refine jj_iload_n (pc2 := 238) hC dX11_restore_237 rfl 1 rfl rfl ?_
      refine jj_aload_n (pc2 := 239) hC dX11_restore_238 rfl 0 rfl rfl ?_
      refine jj_cVI (pc2 := 242) (wd := wr_d Y X cs ad) (g := g) (rest := [.int x2, .ref (ad 31)]) hC (Y.length + 0) (jx_at (V := wr_W cs ad g) rfl) rfl rfl (cr_taken l D cs Y X ad  g _ hV) (cwV 0 hC.1.2.2.2.2 gX11_restore_X11_taken rfl rfl rfl (by decide +kernel) ⟨by decide, by decide⟩) rfl (Nat.le_of_ble_eq_true rfl) _ rfl dX11_restore_239 ⟨Nat.zero_le _, Nat.zero_le _⟩ rfl (fun r39 g40 hV => ?_)
      refine rs_30 (pc2 := 243) hC hV.1 dX11_restore_242 rfl (fun g41 eg41 => ?_)
      have hV := hV.2 g41 eg41
      refine jj_iinc (pc2 := 246) hC (x2 + 1) [(2, .int (x2 + 1)), (0, .ref (ad 0))] dX11_restore_243 1 rfl rfl (by decide) rfl rfl ?_
      refine jj_goto hC 227 dX11_restore_246 (by decide) ?_
      exact jj_sub (lv2 := [(0, .ref (ad 0)), (2, .int (x2 + 1))]) [1, 0] rfl (ih (x2 + 1) g41 hV)
set_option maxHeartbeats 4000000 in
set_option maxRecDepth 100000 in
theorem ar_restore_251 {p : Program} {l : Launch} {e : Env} {s : State} {m : MethodId} {args : Array Value} {below : List Frame} {meth : Method} {c : Code} {D : va_G} {cs : Nat → ClassId} {Y X : va_W} {ad : Nat → Nat} {g0 : jm_M} (hC : JC p s m args meth c D vwCl (va_A (wr_d Y X cs ad g0) s.heap.size) 3 cX11_restore (some .int) wsX11_restore RX11 (jt_tys cs)) (Post : Int32 → jm_M → Prop) (K272 : jm_M → Prop) (hK272 : ∀ (g : jm_M) , K272 g → JJ (wr_d Y X cs ad) p l e rm_X11_restore s m args below meth c D vwCl (va_A (wr_d Y X cs ad g0) s.heap.size) 3 0 0 (MQ below (jj_QI (wr_d Y X cs ad) D vwCl (jt_tys cs) g0 s.heap.size Post) args s 0 0 (va_A (wr_d Y X cs ad g0) s.heap.size)) 272 [(0, .ref (ad 0))] [] g) : ∀ (f : Nat) (x2 : Int32) (g : jm_M), vr_restore_251 K272 Post f x2 g → JJ (wr_d Y X cs ad) p l e rm_X11_restore s m args below meth c D vwCl (va_A (wr_d Y X cs ad g0) s.heap.size) 3 0 0 (MQ below (jj_QI (wr_d Y X cs ad) D vwCl (jt_tys cs) g0 s.heap.size Post) args s 0 0 (va_A (wr_d Y X cs ad g0) s.heap.size)) 251 [(0, .ref (ad 0)), (2, .int x2)] [] g := by
  intro f
  induction f with
  | zero => intro x2 g hV; exact hV.elim
  | succ f ih =>
    intro x2 g hV
    rw [vr_restore_251] at hV
    refine jj_iload_n (pc2 := 252) hC dX11_restore_251 rfl 1 rfl rfl ?_
    refine jj_iconst (pc2 := 253) hC 5 dX11_restore_252 (by decide) rfl ?_
    refine jj_icmp_ge (pc2 := 256) hC 272 dX11_restore_253 (by decide) rfl (fun h43 => ?_) (fun h43 => ?_)
    · have hV := hV.1 h43
      exact jj_sub (lv2 := [(0, .ref (ad 0))]) [0] rfl (hK272 g hV)
    · have hV := hV.2 h43
      refine jj_aload_n (pc2 := 257) hC dX11_restore_256 rfl 0 rfl rfl ?_
      refine rg_59 (pc2 := 260) hC hi_X11_restore_X11 lk_X11_restore_13 dX11_restore_257 rfl ?_
      refine jj_iload_n (pc2 := 261) hC dX11_restore_260 rfl 1 rfl rfl ?_
      refine jj_aload_n (pc2 := 262) hC dX11_restore_261 rfl 0 rfl rfl ?_
      refine jj_cVI (pc2 := 265) (wd := wr_d Y X cs ad) (g := g) (rest := [.int x2, .ref (ad 60)]) hC (Y.length + 0) (jx_at (V := wr_W cs ad g) rfl) rfl rfl (cr_taken l D cs Y X ad  g _ hV) (cwV 0 hC.1.2.2.2.2 gX11_restore_X11_taken rfl rfl rfl (by decide +kernel) ⟨by decide, by decide⟩) rfl (Nat.le_of_ble_eq_true rfl) _ rfl dX11_restore_262 ⟨Nat.zero_le _, Nat.zero_le _⟩ rfl (fun r44 g45 hV => ?_)
      refine rs_59 (pc2 := 266) hC hV.1 dX11_restore_265 rfl (fun g46 eg46 => ?_)
      have hV := hV.2 g46 eg46
      refine jj_iinc (pc2 := 269) hC (x2 + 1) [(2, .int (x2 + 1)), (0, .ref (ad 0))] dX11_restore_266 1 rfl rfl (by decide) rfl rfl ?_
      refine jj_goto hC 251 dX11_restore_269 (by decide) ?_
      exact jj_sub (lv2 := [(0, .ref (ad 0)), (2, .int (x2 + 1))]) [1, 0] rfl (ih (x2 + 1) g46 hV)
set_option maxHeartbeats 4000000 in
set_option maxRecDepth 100000 in
theorem ar_restore_323 {p : Program} {l : Launch} {e : Env} {s : State} {m : MethodId} {args : Array Value} {below : List Frame} {meth : Method} {c : Code} {D : va_G} {cs : Nat → ClassId} {Y X : va_W} {ad : Nat → Nat} {g0 : jm_M} (hC : JC p s m args meth c D vwCl (va_A (wr_d Y X cs ad g0) s.heap.size) 3 cX11_restore (some .int) wsX11_restore RX11 (jt_tys cs)) (Post : Int32 → jm_M → Prop) : ∀ (f : Nat) (x2 : Int32) (g : jm_M), vr_restore_323 Post f x2 g → JJ (wr_d Y X cs ad) p l e rm_X11_restore s m args below meth c D vwCl (va_A (wr_d Y X cs ad g0) s.heap.size) 3 0 0 (MQ below (jj_QI (wr_d Y X cs ad) D vwCl (jt_tys cs) g0 s.heap.size Post) args s 0 0 (va_A (wr_d Y X cs ad g0) s.heap.size)) 323 [(0, .ref (ad 0)), (2, .int x2)] [] g := by
  intro f
  induction f with
  | zero => intro x2 g hV; exact hV.elim
  | succ f ih =>
    intro x2 g hV
    rw [vr_restore_323] at hV
    refine jj_iload_n (pc2 := 324) hC dX11_restore_323 rfl 1 rfl rfl ?_
    refine jj_aload_n (pc2 := 325) hC dX11_restore_324 rfl 0 rfl rfl ?_
    refine rg_40 (pc2 := 328) hC hi_X11_restore_X11 lk_X11_restore_18 dX11_restore_325 rfl ?_
    refine jj_icmp_ge (pc2 := 331) hC 396 dX11_restore_328 (by decide) rfl (fun h64 => ?_) (fun h64 => ?_)
    · have hV := hV.1 h64
      refine jj_iconst (pc2 := 397) hC 1 dX11_restore_396 (by decide) rfl ?_
      exact jj_iret hC dX11_restore_397 hV
    · have hV := hV.2 h64
      refine jj_aload_n (pc2 := 332) hC dX11_restore_331 rfl 0 rfl rfl ?_
      refine rg_41 (pc2 := 335) hC hi_X11_restore_X11 lk_X11_restore_19 dX11_restore_332 rfl ?_
      refine jj_iload_n (pc2 := 336) hC dX11_restore_335 rfl 1 rfl rfl ?_
      refine jj_aload_n (pc2 := 337) hC dX11_restore_336 rfl 0 rfl rfl ?_
      refine jj_cVI (pc2 := 340) (wd := wr_d Y X cs ad) (g := g) (rest := [.int x2, .ref (ad 42)]) hC (Y.length + 0) (jx_at (V := wr_W cs ad g) rfl) rfl rfl (cr_taken l D cs Y X ad  g _ hV) (cwV 0 hC.1.2.2.2.2 gX11_restore_X11_taken rfl rfl rfl (by decide +kernel) ⟨by decide, by decide⟩) rfl (Nat.le_of_ble_eq_true rfl) _ rfl dX11_restore_337 ⟨Nat.zero_le _, Nat.zero_le _⟩ rfl (fun r65 g66 hV => ?_)
      refine rs_41 (pc2 := 341) hC hV.1 dX11_restore_340 rfl (fun g67 eg67 => ?_)
      have hV := hV.2 g67 eg67
      refine jj_aload_n (pc2 := 342) hC dX11_restore_341 rfl 0 rfl rfl ?_
      refine rg_42 (pc2 := 345) hC hi_X11_restore_X11 lk_X11_restore_20 dX11_restore_342 rfl ?_
      refine jj_iload_n (pc2 := 346) hC dX11_restore_345 rfl 1 rfl rfl ?_
      refine jj_aload_n (pc2 := 347) hC dX11_restore_346 rfl 0 rfl rfl ?_
      refine jj_cVI (pc2 := 350) (wd := wr_d Y X cs ad) (g := g67) (rest := [.int x2, .ref (ad 43)]) hC (Y.length + 0) (jx_at (V := wr_W cs ad g67) rfl) rfl rfl (cr_taken l D cs Y X ad  g67 _ hV) (cwV 0 hC.1.2.2.2.2 gX11_restore_X11_taken rfl rfl rfl (by decide +kernel) ⟨by decide, by decide⟩) rfl (Nat.le_of_ble_eq_true rfl) _ rfl dX11_restore_347 ⟨Nat.zero_le _, Nat.zero_le _⟩ rfl (fun r68 g69 hV => ?_)
      refine rs_42 (pc2 := 351) hC hV.1 dX11_restore_350 rfl (fun g70 eg70 => ?_)
      have hV := hV.2 g70 eg70
      refine jj_aload_n (pc2 := 352) hC dX11_restore_351 rfl 0 rfl rfl ?_
      refine rg_43 (pc2 := 355) hC hi_X11_restore_X11 lk_X11_restore_21 dX11_restore_352 rfl ?_
      refine jj_iload_n (pc2 := 356) hC dX11_restore_355 rfl 1 rfl rfl ?_
      refine jj_aload_n (pc2 := 357) hC dX11_restore_356 rfl 0 rfl rfl ?_
      refine jj_cVI (pc2 := 360) (wd := wr_d Y X cs ad) (g := g70) (rest := [.int x2, .ref (ad 44)]) hC (Y.length + 0) (jx_at (V := wr_W cs ad g70) rfl) rfl rfl (cr_taken l D cs Y X ad  g70 _ hV) (cwV 0 hC.1.2.2.2.2 gX11_restore_X11_taken rfl rfl rfl (by decide +kernel) ⟨by decide, by decide⟩) rfl (Nat.le_of_ble_eq_true rfl) _ rfl dX11_restore_357 ⟨Nat.zero_le _, Nat.zero_le _⟩ rfl (fun r71 g72 hV => ?_)
      refine rs_43 (pc2 := 361) hC hV.1 dX11_restore_360 rfl (fun g73 eg73 => ?_)
      have hV := hV.2 g73 eg73
      refine jj_aload_n (pc2 := 362) hC dX11_restore_361 rfl 0 rfl rfl ?_
      refine rg_44 (pc2 := 365) hC hi_X11_restore_X11 lk_X11_restore_22 dX11_restore_362 rfl ?_
      refine jj_iload_n (pc2 := 366) hC dX11_restore_365 rfl 1 rfl rfl ?_
      refine jj_aload_n (pc2 := 367) hC dX11_restore_366 rfl 0 rfl rfl ?_
      refine jj_cVI (pc2 := 370) (wd := wr_d Y X cs ad) (g := g73) (rest := [.int x2, .ref (ad 45)]) hC (Y.length + 0) (jx_at (V := wr_W cs ad g73) rfl) rfl rfl (cr_taken l D cs Y X ad  g73 _ hV) (cwV 0 hC.1.2.2.2.2 gX11_restore_X11_taken rfl rfl rfl (by decide +kernel) ⟨by decide, by decide⟩) rfl (Nat.le_of_ble_eq_true rfl) _ rfl dX11_restore_367 ⟨Nat.zero_le _, Nat.zero_le _⟩ rfl (fun r74 g75 hV => ?_)
      refine rs_44 (pc2 := 371) hC hV.1 dX11_restore_370 rfl (fun g76 eg76 => ?_)
      have hV := hV.2 g76 eg76
      refine jj_aload_n (pc2 := 372) hC dX11_restore_371 rfl 0 rfl rfl ?_
      refine rg_45 (pc2 := 375) hC hi_X11_restore_X11 lk_X11_restore_23 dX11_restore_372 rfl ?_
      refine jj_iload_n (pc2 := 376) hC dX11_restore_375 rfl 1 rfl rfl ?_
      refine jj_aload_n (pc2 := 377) hC dX11_restore_376 rfl 0 rfl rfl ?_
      refine jj_cVI (pc2 := 380) (wd := wr_d Y X cs ad) (g := g76) (rest := [.int x2, .ref (ad 46)]) hC (Y.length + 0) (jx_at (V := wr_W cs ad g76) rfl) rfl rfl (cr_taken l D cs Y X ad  g76 _ hV) (cwV 0 hC.1.2.2.2.2 gX11_restore_X11_taken rfl rfl rfl (by decide +kernel) ⟨by decide, by decide⟩) rfl (Nat.le_of_ble_eq_true rfl) _ rfl dX11_restore_377 ⟨Nat.zero_le _, Nat.zero_le _⟩ rfl (fun r77 g78 hV => ?_)
      refine jj_iconst (pc2 := 381) hC 1 dX11_restore_380 (by decide) rfl ?_
      refine jj_icmp_ne (pc2 := 384) hC 388 dX11_restore_381 (by decide) rfl (fun h79 => ?_) (fun h79 => ?_)
      · have hV := hV.1 h79
        refine jj_iconst (pc2 := 389) hC 0 dX11_restore_388 (by decide) rfl ?_
        refine rs_45 (pc2 := 390) hC hV.1 jj_nb0 dX11_restore_389 rfl (fun g80 eg80 => ?_)
        have hV := hV.2 g80 eg80
        refine jj_iinc (pc2 := 393) hC (x2 + 1) [(2, .int (x2 + 1)), (0, .ref (ad 0))] dX11_restore_390 1 rfl rfl (by decide) rfl rfl ?_
        refine jj_goto hC 323 dX11_restore_393 (by decide) ?_
        exact jj_sub (lv2 := [(0, .ref (ad 0)), (2, .int (x2 + 1))]) [1, 0] rfl (ih (x2 + 1) g80 hV)
      · have hV := hV.2 h79
        refine jj_iconst (pc2 := 385) hC 1 dX11_restore_384 (by decide) rfl ?_
        refine jj_goto hC 389 dX11_restore_385 (by decide) ?_
        refine rs_45 (pc2 := 390) hC hV.1 jj_nb1 dX11_restore_389 rfl (fun g81 eg81 => ?_)
        have hV := hV.2 g81 eg81
        refine jj_iinc (pc2 := 393) hC (x2 + 1) [(2, .int (x2 + 1)), (0, .ref (ad 0))] dX11_restore_390 1 rfl rfl (by decide) rfl rfl ?_
        refine jj_goto hC 323 dX11_restore_393 (by decide) ?_
        exact jj_sub (lv2 := [(0, .ref (ad 0)), (2, .int (x2 + 1))]) [1, 0] rfl (ih (x2 + 1) g81 hV)
set_option maxHeartbeats 4000000 in
set_option maxRecDepth 100000 in
theorem cr_restore (l : Launch) (D : va_G) (cs : Nat → ClassId) (Y X : va_W) (ad : Nat → Nat) (a1 : Int32) (g0 : jm_M) (Post : Int32 → jm_M → Prop) (hV : vr_restore a1 g0 Post) : JI (wr_d Y X cs ad) D vwCl (jt_tys cs) l yX11_restore wsX11_restore rm_X11_restore 0 0 [.ref (ad 0), .int a1] g0 Post := by
  refine jj_metI (cc := cX11_restore) (nL := 3) (ret := (some .int)) (by decide) rfl (Nat.le_of_ble_eq_true rfl) [(0, .ref (ad 0)), (1, .int a1)] rfl ?_
  intro p e s m args below meth c hC hnm
  rw [vr_restore] at hV
  refine jj_iload_n (pc2 := 1) hC dX11_restore_0 rfl 1 rfl rfl ?_
  refine jj_iconst (pc2 := 2) hC 0 dX11_restore_1 (by decide) rfl ?_
  refine jj_iconst (pc2 := 3) hC 3 dX11_restore_2 (by decide) rfl ?_
  refine jj_cSIp (pc2 := 6) (wd := wr_d Y X cs ad) (g := g0) (rest := []) hC (cr_in l D cs Y X ad a1 0 3 g0 _ hV) (va_cwS 3 hC.1.2.2.2.2 gX11_restore_X11_in rfl rfl rfl (by decide +kernel) ⟨by decide, by decide⟩) rfl (Nat.le_of_ble_eq_true rfl) _ rfl dX11_restore_3 ⟨Nat.zero_le _, Nat.zero_le _⟩ rfl (fun r1 hV => ?_)
  refine jj_if_ne (pc2 := 9) hC 11 dX11_restore_6 (by decide) rfl (fun h2 => ?_) (fun h2 => ?_)
  · have hV := hV.1 h2
    refine jj_aload_n (pc2 := 12) hC dX11_restore_11 rfl 0 rfl rfl ?_
    refine jj_sipush (pc2 := 15) hC 13400 dX11_restore_12 (by decide) rfl ?_
    refine jj_iload_n (pc2 := 16) hC dX11_restore_15 rfl 1 rfl rfl ?_
    refine jj_imul (pc2 := 17) hC dX11_restore_16 rfl ?_
    refine rp_62 (pc2 := 20) hC hi_X11_restore_X11 lk_X11_restore_1 dX11_restore_17 rfl (fun g3 eg3 => ?_)
    have hV := hV g3 eg3
    refine jj_aload_n (pc2 := 21) hC dX11_restore_20 rfl 0 rfl rfl ?_
    refine rg_60 (pc2 := 24) hC hi_X11_restore_X11 lk_X11_restore_2 dX11_restore_21 rfl ?_
    refine jj_iload_n (pc2 := 25) hC dX11_restore_24 rfl 1 rfl rfl ?_
    refine ra_60 (pc2 := 26) hC hV.1 dX11_restore_25 rfl ?_
    have hV := hV.2
    refine jj_if_eq (pc2 := 29) hC 63 dX11_restore_26 (by decide) rfl (fun h4 => ?_) (fun h4 => ?_)
    · have hV := hV.1 h4
      refine jj_bipush (pc2 := 65) hC (-2) dX11_restore_63 (by decide) rfl ?_
      exact jj_iret hC dX11_restore_65 hV
    · have hV := hV.2 h4
      refine jj_aload_n (pc2 := 30) hC dX11_restore_29 rfl 0 rfl rfl ?_
      refine rg_61 (pc2 := 33) hC hi_X11_restore_X11 lk_X11_restore_3 dX11_restore_30 rfl ?_
      refine jj_aload_n (pc2 := 34) hC dX11_restore_33 rfl 0 rfl rfl ?_
      refine rg_62 (pc2 := 37) hC hi_X11_restore_X11 lk_X11_restore_1 dX11_restore_34 rfl ?_
      refine ra_61 (pc2 := 38) hC hV.1 dX11_restore_37 rfl ?_
      have hV := hV.2
      refine jj_aload_n (pc2 := 39) hC dX11_restore_38 rfl 0 rfl rfl ?_
      refine rg_1 (pc2 := 42) hC hi_X11_restore_X11 lk_X11_restore_4 dX11_restore_39 rfl ?_
      refine jj_icmp_ne (pc2 := 45) hC 63 dX11_restore_42 (by decide) rfl (fun h5 => ?_) (fun h5 => ?_)
      · have hV := hV.1 h5
        refine jj_bipush (pc2 := 65) hC (-2) dX11_restore_63 (by decide) rfl ?_
        exact jj_iret hC dX11_restore_65 hV
      · have hV := hV.2 h5
        refine jj_aload_n (pc2 := 46) hC dX11_restore_45 rfl 0 rfl rfl ?_
        refine rg_61 (pc2 := 49) hC hi_X11_restore_X11 lk_X11_restore_3 dX11_restore_46 rfl ?_
        refine jj_aload_n (pc2 := 50) hC dX11_restore_49 rfl 0 rfl rfl ?_
        refine rg_62 (pc2 := 53) hC hi_X11_restore_X11 lk_X11_restore_1 dX11_restore_50 rfl ?_
        refine jj_iconst (pc2 := 54) hC 1 dX11_restore_53 (by decide) rfl ?_
        refine jj_iadd (pc2 := 55) hC dX11_restore_54 rfl ?_
        refine ra_61 (pc2 := 56) hC hV.1 dX11_restore_55 rfl ?_
        have hV := hV.2
        refine jj_aload_n (pc2 := 57) hC dX11_restore_56 rfl 0 rfl rfl ?_
        refine rg_3 (pc2 := 60) hC hi_X11_restore_X11 lk_X11_restore_5 dX11_restore_57 rfl ?_
        refine jj_icmp_eq (pc2 := 63) hC 66 dX11_restore_60 (by decide) rfl (fun h6 => ?_) (fun h6 => ?_)
        · have hV := hV.1 h6
          refine jj_aload_n (pc2 := 67) hC dX11_restore_66 rfl 0 rfl rfl ?_
          refine jj_dup (pc2 := 68) hC dX11_restore_67 rfl rfl ?_
          refine rg_62 (pc2 := 71) hC hi_X11_restore_X11 lk_X11_restore_1 dX11_restore_68 rfl ?_
          refine jj_iconst (pc2 := 72) hC 2 dX11_restore_71 (by decide) rfl ?_
          refine jj_iadd (pc2 := 73) hC dX11_restore_72 rfl ?_
          refine rp_62 (pc2 := 76) hC hi_X11_restore_X11 lk_X11_restore_1 dX11_restore_73 rfl (fun g7 eg7 => ?_)
          have hV := hV g7 eg7
          refine jj_iconst (pc2 := 77) hC 0 dX11_restore_76 (by decide) rfl ?_
          refine jj_istore_n (pc2 := 78) hC [(2, .int 0), (0, .ref (ad 0)), (1, .int a1)] dX11_restore_77 rfl (by decide) rfl rfl ?_
          obtain ⟨n104, hV⟩ := hV
          refine jj_sub (lv2 := [(0, .ref (ad 0)), (2, .int 0)]) [1, 0] rfl (ar_restore_78 hC Post _ (fun g12 hV => ?_) n104 0 g7 hV)
          refine jj_iconst (pc2 := 102) hC 0 dX11_restore_101 (by decide) rfl ?_
          refine jj_istore_n (pc2 := 103) hC [(2, .int 0), (0, .ref (ad 0))] dX11_restore_102 rfl (by decide) rfl rfl ?_
          obtain ⟨n103, hV⟩ := hV
          refine jj_sub (lv2 := [(0, .ref (ad 0)), (2, .int 0)]) [1, 0] rfl (ar_restore_103 hC Post _ (fun g17 hV => ?_) n103 0 g12 hV)
          refine jj_iconst (pc2 := 127) hC 0 dX11_restore_126 (by decide) rfl ?_
          refine jj_istore_n (pc2 := 128) hC [(2, .int 0), (0, .ref (ad 0))] dX11_restore_127 rfl (by decide) rfl rfl ?_
          obtain ⟨n102, hV⟩ := hV
          refine jj_sub (lv2 := [(0, .ref (ad 0)), (2, .int 0)]) [1, 0] rfl (ar_restore_128 hC Post _ (fun g22 hV => ?_) n102 0 g17 hV)
          refine jj_iconst (pc2 := 151) hC 0 dX11_restore_150 (by decide) rfl ?_
          refine jj_istore_n (pc2 := 152) hC [(2, .int 0), (0, .ref (ad 0))] dX11_restore_151 rfl (by decide) rfl rfl ?_
          obtain ⟨n101, hV⟩ := hV
          refine jj_sub (lv2 := [(0, .ref (ad 0)), (2, .int 0)]) [1, 0] rfl (ar_restore_152 hC Post _ (fun g27 hV => ?_) n101 0 g22 hV)
          refine jj_iconst (pc2 := 176) hC 0 dX11_restore_175 (by decide) rfl ?_
          refine jj_istore_n (pc2 := 177) hC [(2, .int 0), (0, .ref (ad 0))] dX11_restore_176 rfl (by decide) rfl rfl ?_
          obtain ⟨n100, hV⟩ := hV
          refine jj_sub (lv2 := [(0, .ref (ad 0)), (2, .int 0)]) [1, 0] rfl (ar_restore_177 hC Post _ (fun g32 hV => ?_) n100 0 g27 hV)
          refine jj_iconst (pc2 := 201) hC 0 dX11_restore_200 (by decide) rfl ?_
          refine jj_istore_n (pc2 := 202) hC [(2, .int 0), (0, .ref (ad 0))] dX11_restore_201 rfl (by decide) rfl rfl ?_
          obtain ⟨n99, hV⟩ := hV
          refine jj_sub (lv2 := [(0, .ref (ad 0)), (2, .int 0)]) [1, 0] rfl (ar_restore_202 hC Post _ (fun g37 hV => ?_) n99 0 g32 hV)
          refine jj_iconst (pc2 := 226) hC 0 dX11_restore_225 (by decide) rfl ?_
          refine jj_istore_n (pc2 := 227) hC [(2, .int 0), (0, .ref (ad 0))] dX11_restore_226 rfl (by decide) rfl rfl ?_
          obtain ⟨n98, hV⟩ := hV
          refine jj_sub (lv2 := [(0, .ref (ad 0)), (2, .int 0)]) [1, 0] rfl (ar_restore_227 hC Post _ (fun g42 hV => ?_) n98 0 g37 hV)
          refine jj_iconst (pc2 := 250) hC 0 dX11_restore_249 (by decide) rfl ?_
          refine jj_istore_n (pc2 := 251) hC [(2, .int 0), (0, .ref (ad 0))] dX11_restore_250 rfl (by decide) rfl rfl ?_
          obtain ⟨n97, hV⟩ := hV
          refine jj_sub (lv2 := [(0, .ref (ad 0)), (2, .int 0)]) [1, 0] rfl (ar_restore_251 hC Post _ (fun g47 hV => ?_) n97 0 g42 hV)
          refine jj_aload_n (pc2 := 273) hC dX11_restore_272 rfl 0 rfl rfl ?_
          refine jj_aload_n (pc2 := 274) hC dX11_restore_273 rfl 0 rfl rfl ?_
          refine jj_cVI (pc2 := 277) (wd := wr_d Y X cs ad) (g := g47) (rest := [.ref (ad 0)]) hC (Y.length + 0) (jx_at (V := wr_W cs ad g47) rfl) rfl rfl (cr_taken l D cs Y X ad  g47 _ hV) (cwV 0 hC.1.2.2.2.2 gX11_restore_X11_taken rfl rfl rfl (by decide +kernel) ⟨by decide, by decide⟩) rfl (Nat.le_of_ble_eq_true rfl) _ rfl dX11_restore_274 ⟨Nat.zero_le _, Nat.zero_le _⟩ rfl (fun r48 g49 hV => ?_)
          refine jj_iconst (pc2 := 278) hC 1 dX11_restore_277 (by decide) rfl ?_
          refine jj_icmp_ne (pc2 := 281) hC 285 dX11_restore_278 (by decide) rfl (fun h50 => ?_) (fun h50 => ?_)
          · have hV := hV.1 h50
            refine jj_iconst (pc2 := 286) hC 0 dX11_restore_285 (by decide) rfl ?_
            refine rp_58 (pc2 := 289) hC hi_X11_restore_X11 lk_X11_restore_14 jj_nb0 dX11_restore_286 rfl (fun g51 eg51 => ?_)
            have hV := hV g51 eg51
            refine jj_aload_n (pc2 := 290) hC dX11_restore_289 rfl 0 rfl rfl ?_
            refine jj_aload_n (pc2 := 291) hC dX11_restore_290 rfl 0 rfl rfl ?_
            refine jj_cVI (pc2 := 294) (wd := wr_d Y X cs ad) (g := g51) (rest := [.ref (ad 0)]) hC (Y.length + 0) (jx_at (V := wr_W cs ad g51) rfl) rfl rfl (cr_taken l D cs Y X ad  g51 _ hV) (cwV 0 hC.1.2.2.2.2 gX11_restore_X11_taken rfl rfl rfl (by decide +kernel) ⟨by decide, by decide⟩) rfl (Nat.le_of_ble_eq_true rfl) _ rfl dX11_restore_291 ⟨Nat.zero_le _, Nat.zero_le _⟩ rfl (fun r52 g53 hV => ?_)
            refine rp_57 (pc2 := 297) hC hi_X11_restore_X11 lk_X11_restore_15 dX11_restore_294 rfl (fun g54 eg54 => ?_)
            have hV := hV g54 eg54
            refine jj_aload_n (pc2 := 298) hC dX11_restore_297 rfl 0 rfl rfl ?_
            refine jj_aload_n (pc2 := 299) hC dX11_restore_298 rfl 0 rfl rfl ?_
            refine jj_cVI (pc2 := 302) (wd := wr_d Y X cs ad) (g := g54) (rest := [.ref (ad 0)]) hC (Y.length + 0) (jx_at (V := wr_W cs ad g54) rfl) rfl rfl (cr_taken l D cs Y X ad  g54 _ hV) (cwV 0 hC.1.2.2.2.2 gX11_restore_X11_taken rfl rfl rfl (by decide +kernel) ⟨by decide, by decide⟩) rfl (Nat.le_of_ble_eq_true rfl) _ rfl dX11_restore_299 ⟨Nat.zero_le _, Nat.zero_le _⟩ rfl (fun r55 g56 hV => ?_)
            refine rp_28 (pc2 := 305) hC hi_X11_restore_X11 lk_X11_restore_16 dX11_restore_302 rfl (fun g57 eg57 => ?_)
            have hV := hV g57 eg57
            refine jj_aload_n (pc2 := 306) hC dX11_restore_305 rfl 0 rfl rfl ?_
            refine jj_aload_n (pc2 := 307) hC dX11_restore_306 rfl 0 rfl rfl ?_
            refine jj_cVI (pc2 := 310) (wd := wr_d Y X cs ad) (g := g57) (rest := [.ref (ad 0)]) hC (Y.length + 0) (jx_at (V := wr_W cs ad g57) rfl) rfl rfl (cr_taken l D cs Y X ad  g57 _ hV) (cwV 0 hC.1.2.2.2.2 gX11_restore_X11_taken rfl rfl rfl (by decide +kernel) ⟨by decide, by decide⟩) rfl (Nat.le_of_ble_eq_true rfl) _ rfl dX11_restore_307 ⟨Nat.zero_le _, Nat.zero_le _⟩ rfl (fun r58 g59 hV => ?_)
            refine rp_29 (pc2 := 313) hC hi_X11_restore_X11 lk_X11_restore_17 dX11_restore_310 rfl (fun g60 eg60 => ?_)
            have hV := hV g60 eg60
            refine jj_aload_n (pc2 := 314) hC dX11_restore_313 rfl 0 rfl rfl ?_
            refine jj_aload_n (pc2 := 315) hC dX11_restore_314 rfl 0 rfl rfl ?_
            refine jj_cVI (pc2 := 318) (wd := wr_d Y X cs ad) (g := g60) (rest := [.ref (ad 0)]) hC (Y.length + 0) (jx_at (V := wr_W cs ad g60) rfl) rfl rfl (cr_taken l D cs Y X ad  g60 _ hV) (cwV 0 hC.1.2.2.2.2 gX11_restore_X11_taken rfl rfl rfl (by decide +kernel) ⟨by decide, by decide⟩) rfl (Nat.le_of_ble_eq_true rfl) _ rfl dX11_restore_315 ⟨Nat.zero_le _, Nat.zero_le _⟩ rfl (fun r61 g62 hV => ?_)
            refine rp_40 (pc2 := 321) hC hi_X11_restore_X11 lk_X11_restore_18 dX11_restore_318 rfl (fun g63 eg63 => ?_)
            have hV := hV g63 eg63
            refine jj_iconst (pc2 := 322) hC 0 dX11_restore_321 (by decide) rfl ?_
            refine jj_istore_n (pc2 := 323) hC [(2, .int 0), (0, .ref (ad 0))] dX11_restore_322 rfl (by decide) rfl rfl ?_
            obtain ⟨n82, hV⟩ := hV
            refine jj_sub (lv2 := [(0, .ref (ad 0)), (2, .int 0)]) [1, 0] rfl (ar_restore_323 hC Post n82 0 g63 hV)
          · have hV := hV.2 h50
            refine jj_iconst (pc2 := 282) hC 1 dX11_restore_281 (by decide) rfl ?_
            refine jj_goto hC 286 dX11_restore_282 (by decide) ?_
            refine rp_58 (pc2 := 289) hC hi_X11_restore_X11 lk_X11_restore_14 jj_nb1 dX11_restore_286 rfl (fun g83 eg83 => ?_)
            have hV := hV g83 eg83
            refine jj_aload_n (pc2 := 290) hC dX11_restore_289 rfl 0 rfl rfl ?_
            refine jj_aload_n (pc2 := 291) hC dX11_restore_290 rfl 0 rfl rfl ?_
            refine jj_cVI (pc2 := 294) (wd := wr_d Y X cs ad) (g := g83) (rest := [.ref (ad 0)]) hC (Y.length + 0) (jx_at (V := wr_W cs ad g83) rfl) rfl rfl (cr_taken l D cs Y X ad  g83 _ hV) (cwV 0 hC.1.2.2.2.2 gX11_restore_X11_taken rfl rfl rfl (by decide +kernel) ⟨by decide, by decide⟩) rfl (Nat.le_of_ble_eq_true rfl) _ rfl dX11_restore_291 ⟨Nat.zero_le _, Nat.zero_le _⟩ rfl (fun r84 g85 hV => ?_)
            refine rp_57 (pc2 := 297) hC hi_X11_restore_X11 lk_X11_restore_15 dX11_restore_294 rfl (fun g86 eg86 => ?_)
            have hV := hV g86 eg86
            refine jj_aload_n (pc2 := 298) hC dX11_restore_297 rfl 0 rfl rfl ?_
            refine jj_aload_n (pc2 := 299) hC dX11_restore_298 rfl 0 rfl rfl ?_
            refine jj_cVI (pc2 := 302) (wd := wr_d Y X cs ad) (g := g86) (rest := [.ref (ad 0)]) hC (Y.length + 0) (jx_at (V := wr_W cs ad g86) rfl) rfl rfl (cr_taken l D cs Y X ad  g86 _ hV) (cwV 0 hC.1.2.2.2.2 gX11_restore_X11_taken rfl rfl rfl (by decide +kernel) ⟨by decide, by decide⟩) rfl (Nat.le_of_ble_eq_true rfl) _ rfl dX11_restore_299 ⟨Nat.zero_le _, Nat.zero_le _⟩ rfl (fun r87 g88 hV => ?_)
            refine rp_28 (pc2 := 305) hC hi_X11_restore_X11 lk_X11_restore_16 dX11_restore_302 rfl (fun g89 eg89 => ?_)
            have hV := hV g89 eg89
            refine jj_aload_n (pc2 := 306) hC dX11_restore_305 rfl 0 rfl rfl ?_
            refine jj_aload_n (pc2 := 307) hC dX11_restore_306 rfl 0 rfl rfl ?_
            refine jj_cVI (pc2 := 310) (wd := wr_d Y X cs ad) (g := g89) (rest := [.ref (ad 0)]) hC (Y.length + 0) (jx_at (V := wr_W cs ad g89) rfl) rfl rfl (cr_taken l D cs Y X ad  g89 _ hV) (cwV 0 hC.1.2.2.2.2 gX11_restore_X11_taken rfl rfl rfl (by decide +kernel) ⟨by decide, by decide⟩) rfl (Nat.le_of_ble_eq_true rfl) _ rfl dX11_restore_307 ⟨Nat.zero_le _, Nat.zero_le _⟩ rfl (fun r90 g91 hV => ?_)
            refine rp_29 (pc2 := 313) hC hi_X11_restore_X11 lk_X11_restore_17 dX11_restore_310 rfl (fun g92 eg92 => ?_)
            have hV := hV g92 eg92
            refine jj_aload_n (pc2 := 314) hC dX11_restore_313 rfl 0 rfl rfl ?_
            refine jj_aload_n (pc2 := 315) hC dX11_restore_314 rfl 0 rfl rfl ?_
            refine jj_cVI (pc2 := 318) (wd := wr_d Y X cs ad) (g := g92) (rest := [.ref (ad 0)]) hC (Y.length + 0) (jx_at (V := wr_W cs ad g92) rfl) rfl rfl (cr_taken l D cs Y X ad  g92 _ hV) (cwV 0 hC.1.2.2.2.2 gX11_restore_X11_taken rfl rfl rfl (by decide +kernel) ⟨by decide, by decide⟩) rfl (Nat.le_of_ble_eq_true rfl) _ rfl dX11_restore_315 ⟨Nat.zero_le _, Nat.zero_le _⟩ rfl (fun r93 g94 hV => ?_)
            refine rp_40 (pc2 := 321) hC hi_X11_restore_X11 lk_X11_restore_18 dX11_restore_318 rfl (fun g95 eg95 => ?_)
            have hV := hV g95 eg95
            refine jj_iconst (pc2 := 322) hC 0 dX11_restore_321 (by decide) rfl ?_
            refine jj_istore_n (pc2 := 323) hC [(2, .int 0), (0, .ref (ad 0))] dX11_restore_322 rfl (by decide) rfl rfl ?_
            obtain ⟨n96, hV⟩ := hV
            refine jj_sub (lv2 := [(0, .ref (ad 0)), (2, .int 0)]) [1, 0] rfl (ar_restore_323 hC Post n96 0 g95 hV)
        · have hV := hV.2 h6
          refine jj_bipush (pc2 := 65) hC (-2) dX11_restore_63 (by decide) rfl ?_
          exact jj_iret hC dX11_restore_65 hV
  · have hV := hV.2 h2
    refine jj_iconst (pc2 := 10) hC (-1) dX11_restore_9 (by decide) rfl ?_
    exact jj_iret hC dX11_restore_10 hV
theorem hi_X11_count_X11 : ∀ w ∈ u_ws RX11 TX11 63, w ∈ wsX11_count := fun _ h => List.mem_cons_of_mem _ (List.mem_append_right _ h)
theorem lk_X11_count_1 : Cond.fieldLink RX11 148 "PartedHouseModel" "modules" "I" ∈ wsX11_count := List.mem_of_getElem? (i := 1) rfl
theorem lk_X11_count_2 : Cond.fieldLink RX11 155 "PartedHouseModel" "tables" "I" ∈ wsX11_count := List.mem_of_getElem? (i := 2) rfl
theorem lk_X11_count_3 : Cond.fieldLink RX11 158 "PartedHouseModel" "routines" "I" ∈ wsX11_count := List.mem_of_getElem? (i := 3) rfl
theorem lk_X11_count_4 : Cond.fieldLink RX11 255 "PartedHouseModel" "laws" "I" ∈ wsX11_count := List.mem_of_getElem? (i := 4) rfl
theorem lk_X11_count_5 : Cond.fieldLink RX11 193 "PartedHouseModel" "actsOld" "I" ∈ wsX11_count := List.mem_of_getElem? (i := 5) rfl
theorem lk_X11_count_6 : Cond.fieldLink RX11 245 "PartedHouseModel" "actsNew" "I" ∈ wsX11_count := List.mem_of_getElem? (i := 6) rfl
theorem lk_X11_count_7 : Cond.fieldLink RX11 242 "PartedHouseModel" "sent" "I" ∈ wsX11_count := List.mem_of_getElem? (i := 7) rfl
theorem lk_X11_count_8 : Cond.fieldLink RX11 287 "PartedHouseModel" "besides" "I" ∈ wsX11_count := List.mem_of_getElem? (i := 8) rfl
abbrev rm_X11_count : Room := { frames := 1, cells := 0, slots := 0, locals := 22 }
def vr_count (a1 : Int32) (g0 : jm_M) (Post : Int32 → Prop) : Prop := ((a1.toInt < 0 ∨ 8 < a1.toInt) → (Post (-1))) ∧ (a1 = 0 → (Post (g0 1 0))) ∧ (a1 = 1 → (Post (g0 3 0))) ∧ (a1 = 2 → (Post (g0 5 0))) ∧ (a1 = 3 → (Post (g0 46 0))) ∧ (a1 = 4 → (Post (g0 28 0))) ∧ (a1 = 5 → (Post (g0 29 0))) ∧ (a1 = 6 → (Post (g0 40 0))) ∧ (a1 = 7 → (vr_waitingNow g0 (fun (r2 : Int32) => Post r2))) ∧ (a1 = 8 → (Post (g0 57 0)))
set_option maxHeartbeats 4000000 in
set_option maxRecDepth 100000 in
theorem cr_count (l : Launch) (D : va_G) (cs : Nat → ClassId) (Y X : va_W) (ad : Nat → Nat) (a1 : Int32) (g0 : jm_M) (Post : Int32 → Prop) (hV : vr_count a1 g0 Post) : JI (wr_d Y X cs ad) D vwCl (jt_tys cs) l yX11_count wsX11_count rm_X11_count 0 0 [.ref (ad 0), .int a1] g0 (fun r g2 => Post r ∧ g2 = g0) := by
  refine jj_metI (cc := cX11_count) (nL := 2) (ret := (some .int)) (by decide) rfl (Nat.le_of_ble_eq_true rfl) [(0, .ref (ad 0)), (1, .int a1)] rfl ?_
  intro p e s m args below meth c hC hnm
  rw [vr_count] at hV
  refine jj_iload_n (pc2 := 1) hC dX11_count_0 rfl 1 rfl rfl ?_
  by_cases h1 : a1.toInt < 0 ∨ 8 < a1.toInt
  · have hV := hV.1 h1
    refine jj_tabOut hC 97 dX11_count_1 h1 (by decide) ?_
    refine jj_iconst (pc2 := 98) hC (-1) dX11_count_97 (by decide) rfl ?_
    exact jj_iret hC dX11_count_98 ⟨hV, rfl⟩
  have hV := hV.2
  rcases jj_sw_0_8 a1 h1 with hs | hs | hs | hs | hs | hs | hs | hs | hs
  · have hV := hV.1 hs
    refine jj_tabIn (off := 51) hC 52 dX11_count_1 (fun q => h1 (Or.inl q)) (fun q => h1 (Or.inr q)) (by rw [hs]; decide) (by decide) ?_
    refine jj_aload_n (pc2 := 53) hC dX11_count_52 rfl 0 rfl rfl ?_
    refine rg_1 (pc2 := 56) hC hi_X11_count_X11 lk_X11_count_1 dX11_count_53 rfl ?_
    exact jj_iret hC dX11_count_56 ⟨hV, rfl⟩
  · have hV := hV.2.1 hs
    refine jj_tabIn (off := 56) hC 57 dX11_count_1 (fun q => h1 (Or.inl q)) (fun q => h1 (Or.inr q)) (by rw [hs]; decide) (by decide) ?_
    refine jj_aload_n (pc2 := 58) hC dX11_count_57 rfl 0 rfl rfl ?_
    refine rg_3 (pc2 := 61) hC hi_X11_count_X11 lk_X11_count_2 dX11_count_58 rfl ?_
    exact jj_iret hC dX11_count_61 ⟨hV, rfl⟩
  · have hV := hV.2.2.1 hs
    refine jj_tabIn (off := 61) hC 62 dX11_count_1 (fun q => h1 (Or.inl q)) (fun q => h1 (Or.inr q)) (by rw [hs]; decide) (by decide) ?_
    refine jj_aload_n (pc2 := 63) hC dX11_count_62 rfl 0 rfl rfl ?_
    refine rg_5 (pc2 := 66) hC hi_X11_count_X11 lk_X11_count_3 dX11_count_63 rfl ?_
    exact jj_iret hC dX11_count_66 ⟨hV, rfl⟩
  · have hV := hV.2.2.2.1 hs
    refine jj_tabIn (off := 66) hC 67 dX11_count_1 (fun q => h1 (Or.inl q)) (fun q => h1 (Or.inr q)) (by rw [hs]; decide) (by decide) ?_
    refine jj_aload_n (pc2 := 68) hC dX11_count_67 rfl 0 rfl rfl ?_
    refine rg_46 (pc2 := 71) hC hi_X11_count_X11 lk_X11_count_4 dX11_count_68 rfl ?_
    exact jj_iret hC dX11_count_71 ⟨hV, rfl⟩
  · have hV := hV.2.2.2.2.1 hs
    refine jj_tabIn (off := 71) hC 72 dX11_count_1 (fun q => h1 (Or.inl q)) (fun q => h1 (Or.inr q)) (by rw [hs]; decide) (by decide) ?_
    refine jj_aload_n (pc2 := 73) hC dX11_count_72 rfl 0 rfl rfl ?_
    refine rg_28 (pc2 := 76) hC hi_X11_count_X11 lk_X11_count_5 dX11_count_73 rfl ?_
    exact jj_iret hC dX11_count_76 ⟨hV, rfl⟩
  · have hV := hV.2.2.2.2.2.1 hs
    refine jj_tabIn (off := 76) hC 77 dX11_count_1 (fun q => h1 (Or.inl q)) (fun q => h1 (Or.inr q)) (by rw [hs]; decide) (by decide) ?_
    refine jj_aload_n (pc2 := 78) hC dX11_count_77 rfl 0 rfl rfl ?_
    refine rg_29 (pc2 := 81) hC hi_X11_count_X11 lk_X11_count_6 dX11_count_78 rfl ?_
    exact jj_iret hC dX11_count_81 ⟨hV, rfl⟩
  · have hV := hV.2.2.2.2.2.2.1 hs
    refine jj_tabIn (off := 81) hC 82 dX11_count_1 (fun q => h1 (Or.inl q)) (fun q => h1 (Or.inr q)) (by rw [hs]; decide) (by decide) ?_
    refine jj_aload_n (pc2 := 83) hC dX11_count_82 rfl 0 rfl rfl ?_
    refine rg_40 (pc2 := 86) hC hi_X11_count_X11 lk_X11_count_7 dX11_count_83 rfl ?_
    exact jj_iret hC dX11_count_86 ⟨hV, rfl⟩
  · have hV := hV.2.2.2.2.2.2.2.1 hs
    refine jj_tabIn (off := 86) hC 87 dX11_count_1 (fun q => h1 (Or.inl q)) (fun q => h1 (Or.inr q)) (by rw [hs]; decide) (by decide) ?_
    refine jj_aload_n (pc2 := 88) hC dX11_count_87 rfl 0 rfl rfl ?_
    refine jj_cVIp (pc2 := 91) (wd := wr_d Y X cs ad) (g := g0) (rest := []) hC (Y.length + 0) (jx_at (V := wr_W cs ad g0) rfl) rfl rfl (cr_waitingNow l D cs Y X ad  g0 _ hV) (cwV 0 hC.1.2.2.2.2 gX11_count_X11_waitingNow rfl rfl rfl (by decide +kernel) ⟨by decide, by decide⟩) rfl (Nat.le_of_ble_eq_true rfl) _ rfl dX11_count_88 ⟨Nat.zero_le _, Nat.zero_le _⟩ rfl (fun r2 hV => ?_)
    exact jj_iret hC dX11_count_91 ⟨hV, rfl⟩
  · have hV := hV.2.2.2.2.2.2.2.2 hs
    refine jj_tabIn (off := 91) hC 92 dX11_count_1 (fun q => h1 (Or.inl q)) (fun q => h1 (Or.inr q)) (by rw [hs]; decide) (by decide) ?_
    refine jj_aload_n (pc2 := 93) hC dX11_count_92 rfl 0 rfl rfl ?_
    refine rg_57 (pc2 := 96) hC hi_X11_count_X11 lk_X11_count_8 dX11_count_93 rfl ?_
    exact jj_iret hC dX11_count_96 ⟨hV, rfl⟩
