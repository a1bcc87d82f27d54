theorem hi_X11_shuffle_X11 : ∀ w ∈ u_ws RX11 TX11 63, w ∈ wsX11_shuffle := fun _ h => List.mem_cons_of_mem _ (List.mem_append_right _ h)
theorem lk_X11_shuffle_3 : Cond.fieldLink RX11 128 "PartedHouseModel" "order" "[I" ∈ wsX11_shuffle := List.mem_of_getElem? (i := 3) rfl
theorem lk_X11_shuffle_4 : Cond.fieldLink RX11 265 "PartedHouseModel" "many" "I" ∈ wsX11_shuffle := List.mem_of_getElem? (i := 4) rfl
theorem lk_X11_shuffle_6 : Cond.fieldLink RX11 125 "PartedHouseModel" "waiting" "[I" ∈ wsX11_shuffle := List.mem_of_getElem? (i := 6) rfl
theorem lk_X11_shuffle_5 : Cond.fieldLink RX11 131 "PartedHouseModel" "worst" "[I" ∈ wsX11_shuffle := List.mem_of_getElem? (i := 5) rfl
theorem lk_X11_shuffle_2 : Cond.fieldLink RX11 274 "PartedHouseModel" "brokenMany" "I" ∈ wsX11_shuffle := List.mem_of_getElem? (i := 2) rfl
theorem lk_X11_shuffle_1 : Cond.fieldLink RX11 271 "PartedHouseModel" "ordersMany" "I" ∈ wsX11_shuffle := List.mem_of_getElem? (i := 1) rfl
abbrev rm_X11_shuffle : Room := { frames := 2, cells := 0, slots := 0, locals := 48 }
def vr_shuffle_59 (x1 : Int32) (x2 : Int32) (K97 : jm_M → Prop) (Post : jm_M → Prop) : Nat → Int32 → jm_M → Prop
  | 0, _, _ => False
  | f + 1, x3, g => (((g 51 0) ≤ x3) → (K97 g)) ∧ ((¬ (g 51 0) ≤ x3) → (((¬ (g 56 0) = 0) → (K97 g)) ∧ (((g 56 0) = 0) → ((vp_in x3 7) ∧ ((vp_in (g 53 x3.toNatClampNeg) 6) ∧ ((vp_in x3 6) ∧ (∀ g20 : jm_M, g20 = jm_a g 54 x3 (g 52 (g 53 x3.toNatClampNeg).toNatClampNeg) → (vr_shuffle_59 x1 x2 K97 Post f (x3 + 1) g20))))))))
def vr_shuffle_23 (x1 : Int32) (Post : jm_M → Prop) : Nat → Int32 → jm_M → Prop
  | 0, _, _ => False
  | f + 1, x2, g => ((x2 < 0) → (Post g)) ∧ ((¬ x2 < 0) → (((¬ x2 = (g 51 0)) → ((vp_in x2 7) ∧ ((vp_in x2 7) ∧ (∀ g8 : jm_M, g8 = jm_a g 53 x2 ((g 53 x2.toNatClampNeg) + 1) → ((vp_in x2 7) ∧ (((¬ (g8 53 x2.toNatClampNeg) = (g8 51 0)) → (vr_mayCome x2 g8 (fun (r10 : Int32) => ((¬ r10 = 0) → ((vp_in (x2 + 1) 7) ∧ (∀ g12 : jm_M, g12 = jm_a g8 53 (x2 + 1) (-1) → (vr_shuffle_23 x1 Post f (x2 + 1) g12)))) ∧ ((r10 = 0) → (vr_shuffle_23 x1 Post f x2 g8))))) ∧ (((g8 53 x2.toNatClampNeg) = (g8 51 0)) → (vr_shuffle_23 x1 Post f (x2 + (-1)) g8)))))))) ∧ ((x2 = (g 51 0)) → (∀ g13 : jm_M, g13 = jm_s g 55 ((g 55 0) + 1) → (((x1 < 0) → (vr_shuffle_23 x1 Post f (x2 + (-1)) g13)) ∧ ((¬ x1 < 0) → (vr_breaks x1 g13 (fun (r15 : Int32) (g16 : jm_M) => ((r15 = 0) → (vr_shuffle_23 x1 Post f (x2 + (-1)) g16)) ∧ ((¬ r15 = 0) → (∃ n23 : Nat, vr_shuffle_59 x1 x2 (fun (g21 : jm_M) => ∀ g22 : jm_M, g22 = jm_s g21 56 ((g21 56 0) + 1) → (vr_shuffle_23 x1 Post f (x2 + (-1)) g22)) Post n23 0 g16))))))))))
def vr_shuffle (a1 : Int32) (g0 : jm_M) (Post : jm_M → Prop) : Prop := vr_findWaiting g0 (fun (g2 : jm_M) => ∀ g3 : jm_M, g3 = jm_s g2 55 0 → (∀ g4 : jm_M, g4 = jm_s g3 56 0 → (∀ g5 : jm_M, g5 = jm_a g4 53 0 (-1) → (∃ n24 : Nat, vr_shuffle_23 a1 Post n24 0 g5))))
set_option maxHeartbeats 4000000 in
set_option maxRecDepth 100000 in
theorem ar_shuffle_59 {p : Program} {l : Launch} {e : Env} {s : State} {m : MethodId} {args : Array Value} {below : List Frame} {meth : Method} {c : Code} {D : va_G} {cs : Nat → ClassId} {Y X : va_W} {ad : Nat → Nat} {g0 : jm_M} (hC : JC p s m args meth c D vwCl (va_A (wr_d Y X cs ad g0) s.heap.size) 4 cX11_shuffle none wsX11_shuffle RX11 (jt_tys cs)) (x1 : Int32) (x2 : Int32) (Post : jm_M → Prop) (K97 : jm_M → Prop) (hK97 : ∀ (g : jm_M) , K97 g → JJ (wr_d Y X cs ad) p l e rm_X11_shuffle s m args below meth c D vwCl (va_A (wr_d Y X cs ad g0) s.heap.size) 4 0 0 (MQ below (jj_QV (wr_d Y X cs ad) D vwCl (jt_tys cs) g0 s.heap.size Post) args s 0 0 (va_A (wr_d Y X cs ad g0) s.heap.size)) 97 [(0, .ref (ad 0)), (1, .int x1), (2, .int x2)] [] g) : ∀ (f : Nat) (x3 : Int32) (g : jm_M), vr_shuffle_59 x1 x2 K97 Post f x3 g → JJ (wr_d Y X cs ad) p l e rm_X11_shuffle s m args below meth c D vwCl (va_A (wr_d Y X cs ad g0) s.heap.size) 4 0 0 (MQ below (jj_QV (wr_d Y X cs ad) D vwCl (jt_tys cs) g0 s.heap.size Post) args s 0 0 (va_A (wr_d Y X cs ad g0) s.heap.size)) 59 [(0, .ref (ad 0)), (1, .int x1), (2, .int x2), (3, .int x3)] [] g := by
  intro f
  induction f with
  | zero => intro x3 g hV; exact hV.elim
  | succ f ih =>
    intro x3 g hV
    rw [vr_shuffle_59] at hV
    refine jj_iload_n (pc2 := 60) hC dX11_shuffle_59 rfl 3 rfl rfl ?_
    refine jj_aload_n (pc2 := 61) hC dX11_shuffle_60 rfl 0 rfl rfl ?_
    refine rg_51 (pc2 := 64) hC hi_X11_shuffle_X11 lk_X11_shuffle_4 dX11_shuffle_61 rfl ?_
    refine jj_icmp_ge (pc2 := 67) hC 97 dX11_shuffle_64 (by decide) rfl (fun h18 => ?_) (fun h18 => ?_)
    · have hV := hV.1 h18
      exact jj_sub (lv2 := [(0, .ref (ad 0)), (1, .int x1), (2, .int x2)]) [0, 1, 2] rfl (hK97 g hV)
    · have hV := hV.2 h18
      refine jj_aload_n (pc2 := 68) hC dX11_shuffle_67 rfl 0 rfl rfl ?_
      refine rg_56 (pc2 := 71) hC hi_X11_shuffle_X11 lk_X11_shuffle_2 dX11_shuffle_68 rfl ?_
      refine jj_if_ne (pc2 := 74) hC 97 dX11_shuffle_71 (by decide) rfl (fun h19 => ?_) (fun h19 => ?_)
      · have hV := hV.1 h19
        exact jj_sub (lv2 := [(0, .ref (ad 0)), (1, .int x1), (2, .int x2)]) [0, 1, 2] rfl (hK97 g hV)
      · have hV := hV.2 h19
        refine jj_aload_n (pc2 := 75) hC dX11_shuffle_74 rfl 0 rfl rfl ?_
        refine rg_54 (pc2 := 78) hC hi_X11_shuffle_X11 lk_X11_shuffle_5 dX11_shuffle_75 rfl ?_
        refine jj_iload_n (pc2 := 79) hC dX11_shuffle_78 rfl 3 rfl rfl ?_
        refine jj_aload_n (pc2 := 80) hC dX11_shuffle_79 rfl 0 rfl rfl ?_
        refine rg_52 (pc2 := 83) hC hi_X11_shuffle_X11 lk_X11_shuffle_6 dX11_shuffle_80 rfl ?_
        refine jj_aload_n (pc2 := 84) hC dX11_shuffle_83 rfl 0 rfl rfl ?_
        refine rg_53 (pc2 := 87) hC hi_X11_shuffle_X11 lk_X11_shuffle_3 dX11_shuffle_84 rfl ?_
        refine jj_iload_n (pc2 := 88) hC dX11_shuffle_87 rfl 3 rfl rfl ?_
        refine ra_53 (pc2 := 89) hC hV.1 dX11_shuffle_88 rfl ?_
        have hV := hV.2
        refine ra_52 (pc2 := 90) hC hV.1 dX11_shuffle_89 rfl ?_
        have hV := hV.2
        refine rs_54 (pc2 := 91) hC hV.1 dX11_shuffle_90 rfl (fun g20 eg20 => ?_)
        have hV := hV.2 g20 eg20
        refine jj_iinc (pc2 := 94) hC (x3 + 1) [(3, .int (x3 + 1)), (0, .ref (ad 0)), (1, .int x1), (2, .int x2)] dX11_shuffle_91 3 rfl rfl (by decide) rfl rfl ?_
        refine jj_goto hC 59 dX11_shuffle_94 (by decide) ?_
        exact jj_sub (lv2 := [(0, .ref (ad 0)), (1, .int x1), (2, .int x2), (3, .int (x3 + 1))]) [1, 2, 3, 0] rfl (ih (x3 + 1) g20 hV)
set_option maxHeartbeats 4000000 in
set_option maxRecDepth 100000 in
theorem ar_shuffle_23 {p : Program} {l : Launch} {e : Env} {s : State} {m : MethodId} {args : Array Value} {below : List Frame} {meth : Method} {c : Code} {D : va_G} {cs : Nat → ClassId} {Y X : va_W} {ad : Nat → Nat} {g0 : jm_M} (hC : JC p s m args meth c D vwCl (va_A (wr_d Y X cs ad g0) s.heap.size) 4 cX11_shuffle none wsX11_shuffle RX11 (jt_tys cs)) (x1 : Int32) (Post : jm_M → Prop) : ∀ (f : Nat) (x2 : Int32) (g : jm_M), vr_shuffle_23 x1 Post f x2 g → JJ (wr_d Y X cs ad) p l e rm_X11_shuffle s m args below meth c D vwCl (va_A (wr_d Y X cs ad g0) s.heap.size) 4 0 0 (MQ below (jj_QV (wr_d Y X cs ad) D vwCl (jt_tys cs) g0 s.heap.size Post) args s 0 0 (va_A (wr_d Y X cs ad g0) s.heap.size)) 23 [(0, .ref (ad 0)), (1, .int x1), (2, .int x2)] [] g := by
  intro f
  induction f with
  | zero => intro x2 g hV; exact hV.elim
  | succ f ih =>
    intro x2 g hV
    rw [vr_shuffle_23] at hV
    refine jj_iload_n (pc2 := 24) hC dX11_shuffle_23 rfl 2 rfl rfl ?_
    refine jj_if_lt (pc2 := 27) hC 166 dX11_shuffle_24 (by decide) rfl (fun h6 => ?_) (fun h6 => ?_)
    · have hV := hV.1 h6
      exact jj_vret hC dX11_shuffle_166 hV
    · have hV := hV.2 h6
      refine jj_iload_n (pc2 := 28) hC dX11_shuffle_27 rfl 2 rfl rfl ?_
      refine jj_aload_n (pc2 := 29) hC dX11_shuffle_28 rfl 0 rfl rfl ?_
      refine rg_51 (pc2 := 32) hC hi_X11_shuffle_X11 lk_X11_shuffle_4 dX11_shuffle_29 rfl ?_
      refine jj_icmp_ne (pc2 := 35) hC 113 dX11_shuffle_32 (by decide) rfl (fun h7 => ?_) (fun h7 => ?_)
      · have hV := hV.1 h7
        refine jj_aload_n (pc2 := 114) hC dX11_shuffle_113 rfl 0 rfl rfl ?_
        refine rg_53 (pc2 := 117) hC hi_X11_shuffle_X11 lk_X11_shuffle_3 dX11_shuffle_114 rfl ?_
        refine jj_iload_n (pc2 := 118) hC dX11_shuffle_117 rfl 2 rfl rfl ?_
        refine jj_dup2 (pc2 := 119) hC dX11_shuffle_118 rfl rfl rfl ?_
        refine ra_53 (pc2 := 120) hC hV.1 dX11_shuffle_119 rfl ?_
        have hV := hV.2
        refine jj_iconst (pc2 := 121) hC 1 dX11_shuffle_120 (by decide) rfl ?_
        refine jj_iadd (pc2 := 122) hC dX11_shuffle_121 rfl ?_
        refine rs_53 (pc2 := 123) hC hV.1 dX11_shuffle_122 rfl (fun g8 eg8 => ?_)
        have hV := hV.2 g8 eg8
        refine jj_aload_n (pc2 := 124) hC dX11_shuffle_123 rfl 0 rfl rfl ?_
        refine rg_53 (pc2 := 127) hC hi_X11_shuffle_X11 lk_X11_shuffle_3 dX11_shuffle_124 rfl ?_
        refine jj_iload_n (pc2 := 128) hC dX11_shuffle_127 rfl 2 rfl rfl ?_
        refine ra_53 (pc2 := 129) hC hV.1 dX11_shuffle_128 rfl ?_
        have hV := hV.2
        refine jj_aload_n (pc2 := 130) hC dX11_shuffle_129 rfl 0 rfl rfl ?_
        refine rg_51 (pc2 := 133) hC hi_X11_shuffle_X11 lk_X11_shuffle_4 dX11_shuffle_130 rfl ?_
        refine jj_icmp_ne (pc2 := 136) hC 142 dX11_shuffle_133 (by decide) rfl (fun h9 => ?_) (fun h9 => ?_)
        · have hV := hV.1 h9
          refine jj_aload_n (pc2 := 143) hC dX11_shuffle_142 rfl 0 rfl rfl ?_
          refine jj_iload_n (pc2 := 144) hC dX11_shuffle_143 rfl 2 rfl rfl ?_
          refine jj_cVIp (pc2 := 147) (wd := wr_d Y X cs ad) (g := g8) (rest := []) hC (Y.length + 0) (jx_at (V := wr_W cs ad g8) rfl) rfl rfl (cr_mayCome l D cs Y X ad x2 g8 _ hV) (cwV 1 hC.1.2.2.2.2 gX11_shuffle_X11_mayCome rfl rfl rfl (by decide +kernel) ⟨by decide, by decide⟩) rfl (Nat.le_of_ble_eq_true rfl) _ rfl dX11_shuffle_144 ⟨Nat.zero_le _, Nat.zero_le _⟩ rfl (fun r10 hV => ?_)
          refine jj_if_ne (pc2 := 150) hC 153 dX11_shuffle_147 (by decide) rfl (fun h11 => ?_) (fun h11 => ?_)
          · have hV := hV.1 h11
            refine jj_iinc (pc2 := 156) hC (x2 + 1) [(2, .int (x2 + 1)), (0, .ref (ad 0)), (1, .int x1)] dX11_shuffle_153 2 rfl rfl (by decide) rfl rfl ?_
            refine jj_aload_n (pc2 := 157) hC dX11_shuffle_156 rfl 1 rfl rfl ?_
            refine rg_53 (pc2 := 160) hC hi_X11_shuffle_X11 lk_X11_shuffle_3 dX11_shuffle_157 rfl ?_
            refine jj_iload_n (pc2 := 161) hC dX11_shuffle_160 rfl 0 rfl rfl ?_
            refine jj_iconst (pc2 := 162) hC (-1) dX11_shuffle_161 (by decide) rfl ?_
            refine rs_53 (pc2 := 163) hC hV.1 dX11_shuffle_162 rfl (fun g12 eg12 => ?_)
            have hV := hV.2 g12 eg12
            refine jj_goto hC 23 dX11_shuffle_163 (by decide) ?_
            exact jj_sub (lv2 := [(0, .ref (ad 0)), (1, .int x1), (2, .int (x2 + 1))]) [1, 2, 0] rfl (ih (x2 + 1) g12 hV)
          · have hV := hV.2 h11
            refine jj_goto hC 23 dX11_shuffle_150 (by decide) ?_
            exact (ih x2 g8 hV)
        · have hV := hV.2 h9
          refine jj_iinc (pc2 := 139) hC (x2 + (-1)) [(2, .int (x2 + (-1))), (0, .ref (ad 0)), (1, .int x1)] dX11_shuffle_136 2 rfl rfl (by decide) rfl rfl ?_
          refine jj_goto hC 23 dX11_shuffle_139 (by decide) ?_
          exact jj_sub (lv2 := [(0, .ref (ad 0)), (1, .int x1), (2, .int (x2 + (-1)))]) [1, 2, 0] rfl (ih (x2 + (-1)) g8 hV)
      · have hV := hV.2 h7
        refine jj_aload_n (pc2 := 36) hC dX11_shuffle_35 rfl 0 rfl rfl ?_
        refine jj_dup (pc2 := 37) hC dX11_shuffle_36 rfl rfl ?_
        refine rg_55 (pc2 := 40) hC hi_X11_shuffle_X11 lk_X11_shuffle_1 dX11_shuffle_37 rfl ?_
        refine jj_iconst (pc2 := 41) hC 1 dX11_shuffle_40 (by decide) rfl ?_
        refine jj_iadd (pc2 := 42) hC dX11_shuffle_41 rfl ?_
        refine rp_55 (pc2 := 45) hC hi_X11_shuffle_X11 lk_X11_shuffle_1 dX11_shuffle_42 rfl (fun g13 eg13 => ?_)
        have hV := hV g13 eg13
        refine jj_iload_n (pc2 := 46) hC dX11_shuffle_45 rfl 1 rfl rfl ?_
        refine jj_if_lt (pc2 := 49) hC 107 dX11_shuffle_46 (by decide) rfl (fun h14 => ?_) (fun h14 => ?_)
        · have hV := hV.1 h14
          refine jj_iinc (pc2 := 110) hC (x2 + (-1)) [(2, .int (x2 + (-1))), (0, .ref (ad 0)), (1, .int x1)] dX11_shuffle_107 2 rfl rfl (by decide) rfl rfl ?_
          refine jj_goto hC 23 dX11_shuffle_110 (by decide) ?_
          exact jj_sub (lv2 := [(0, .ref (ad 0)), (1, .int x1), (2, .int (x2 + (-1)))]) [1, 2, 0] rfl (ih (x2 + (-1)) g13 hV)
        · have hV := hV.2 h14
          refine jj_aload_n (pc2 := 50) hC dX11_shuffle_49 rfl 0 rfl rfl ?_
          refine jj_iload_n (pc2 := 51) hC dX11_shuffle_50 rfl 1 rfl rfl ?_
          refine jj_cVI (pc2 := 54) (wd := wr_d Y X cs ad) (g := g13) (rest := []) hC (Y.length + 0) (jx_at (V := wr_W cs ad g13) rfl) rfl rfl (cr_breaks l D cs Y X ad x1 g13 _ hV) (cwV 1 hC.1.2.2.2.2 gX11_shuffle_X11_breaks rfl rfl rfl (by decide +kernel) ⟨by decide, by decide⟩) rfl (Nat.le_of_ble_eq_true rfl) _ rfl dX11_shuffle_51 ⟨Nat.zero_le _, Nat.zero_le _⟩ rfl (fun r15 g16 hV => ?_)
          refine jj_if_eq (pc2 := 57) hC 107 dX11_shuffle_54 (by decide) rfl (fun h17 => ?_) (fun h17 => ?_)
          · have hV := hV.1 h17
            refine jj_iinc (pc2 := 110) hC (x2 + (-1)) [(2, .int (x2 + (-1))), (0, .ref (ad 0)), (1, .int x1)] dX11_shuffle_107 2 rfl rfl (by decide) rfl rfl ?_
            refine jj_goto hC 23 dX11_shuffle_110 (by decide) ?_
            exact jj_sub (lv2 := [(0, .ref (ad 0)), (1, .int x1), (2, .int (x2 + (-1)))]) [1, 2, 0] rfl (ih (x2 + (-1)) g16 hV)
          · have hV := hV.2 h17
            refine jj_iconst (pc2 := 58) hC 0 dX11_shuffle_57 (by decide) rfl ?_
            refine jj_istore_n (pc2 := 59) hC [(3, .int 0), (0, .ref (ad 0)), (1, .int x1), (2, .int x2)] dX11_shuffle_58 rfl (by decide) rfl rfl ?_
            obtain ⟨n23, hV⟩ := hV
            refine jj_sub (lv2 := [(0, .ref (ad 0)), (1, .int x1), (2, .int x2), (3, .int 0)]) [1, 2, 3, 0] rfl (ar_shuffle_59 hC x1 x2 Post _ (fun g21 hV => ?_) n23 0 g16 hV)
            refine jj_aload_n (pc2 := 98) hC dX11_shuffle_97 rfl 0 rfl rfl ?_
            refine jj_dup (pc2 := 99) hC dX11_shuffle_98 rfl rfl ?_
            refine rg_56 (pc2 := 102) hC hi_X11_shuffle_X11 lk_X11_shuffle_2 dX11_shuffle_99 rfl ?_
            refine jj_iconst (pc2 := 103) hC 1 dX11_shuffle_102 (by decide) rfl ?_
            refine jj_iadd (pc2 := 104) hC dX11_shuffle_103 rfl ?_
            refine rp_56 (pc2 := 107) hC hi_X11_shuffle_X11 lk_X11_shuffle_2 dX11_shuffle_104 rfl (fun g22 eg22 => ?_)
            have hV := hV g22 eg22
            refine jj_iinc (pc2 := 110) hC (x2 + (-1)) [(2, .int (x2 + (-1))), (0, .ref (ad 0)), (1, .int x1)] dX11_shuffle_107 2 rfl rfl (by decide) rfl rfl ?_
            refine jj_goto hC 23 dX11_shuffle_110 (by decide) ?_
            exact jj_sub (lv2 := [(0, .ref (ad 0)), (1, .int x1), (2, .int (x2 + (-1)))]) [1, 2, 0] rfl (ih (x2 + (-1)) g22 hV)
set_option maxHeartbeats 4000000 in
set_option maxRecDepth 100000 in
theorem cr_shuffle (l : Launch) (D : va_G) (cs : Nat → ClassId) (Y X : va_W) (ad : Nat → Nat) (a1 : Int32) (g0 : jm_M) (Post : jm_M → Prop) (hV : vr_shuffle a1 g0 Post) : JV (wr_d Y X cs ad) D vwCl (jt_tys cs) l yX11_shuffle wsX11_shuffle rm_X11_shuffle 0 0 [.ref (ad 0), .int a1] g0 Post := by
  refine jj_metV (cc := cX11_shuffle) (nL := 4) (ret := none) (by decide) rfl (Nat.le_of_ble_eq_true rfl) [(0, .ref (ad 0)), (1, .int a1)] rfl ?_
  intro p e s m args below meth c hC hnm
  rw [vr_shuffle] at hV
  refine jj_aload_n (pc2 := 1) hC dX11_shuffle_0 rfl 0 rfl rfl ?_
  refine jj_cVV (pc2 := 4) (wd := wr_d Y X cs ad) (g := g0) (rest := []) hC (Y.length + 0) (jx_at (V := wr_W cs ad g0) rfl) rfl rfl (cr_findWaiting l D cs Y X ad  g0 _ hV) (cwV 0 hC.1.2.2.2.2 gX11_shuffle_X11_findWaiting rfl rfl rfl (by decide +kernel) ⟨by decide, by decide⟩) rfl (Nat.le_of_ble_eq_true rfl) _ rfl dX11_shuffle_1 ⟨Nat.zero_le _, Nat.zero_le _⟩ rfl (fun g2 hV => ?_)
  refine jj_aload_n (pc2 := 5) hC dX11_shuffle_4 rfl 0 rfl rfl ?_
  refine jj_iconst (pc2 := 6) hC 0 dX11_shuffle_5 (by decide) rfl ?_
  refine rp_55 (pc2 := 9) hC hi_X11_shuffle_X11 lk_X11_shuffle_1 dX11_shuffle_6 rfl (fun g3 eg3 => ?_)
  have hV := hV g3 eg3
  refine jj_aload_n (pc2 := 10) hC dX11_shuffle_9 rfl 0 rfl rfl ?_
  refine jj_iconst (pc2 := 11) hC 0 dX11_shuffle_10 (by decide) rfl ?_
  refine rp_56 (pc2 := 14) hC hi_X11_shuffle_X11 lk_X11_shuffle_2 dX11_shuffle_11 rfl (fun g4 eg4 => ?_)
  have hV := hV g4 eg4
  refine jj_iconst (pc2 := 15) hC 0 dX11_shuffle_14 (by decide) rfl ?_
  refine jj_istore_n (pc2 := 16) hC [(2, .int 0), (0, .ref (ad 0)), (1, .int a1)] dX11_shuffle_15 rfl (by decide) rfl rfl ?_
  refine jj_aload_n (pc2 := 17) hC dX11_shuffle_16 rfl 1 rfl rfl ?_
  refine rg_53 (pc2 := 20) hC hi_X11_shuffle_X11 lk_X11_shuffle_3 dX11_shuffle_17 rfl ?_
  refine jj_iconst (pc2 := 21) hC 0 dX11_shuffle_20 (by decide) rfl ?_
  refine jj_iconst (pc2 := 22) hC (-1) dX11_shuffle_21 (by decide) rfl ?_
  refine rs_53 (pc2 := 23) hC (jx_lit (by decide) (by decide)) dX11_shuffle_22 rfl (fun g5 eg5 => ?_)
  have hV := hV g5 eg5
  obtain ⟨n24, hV⟩ := hV
  refine jj_sub (lv2 := [(0, .ref (ad 0)), (1, .int a1), (2, .int 0)]) [1, 2, 0] rfl (ar_shuffle_23 hC a1 Post n24 0 g5 hV)
theorem hi_X11_broken_X11 : ∀ w ∈ u_ws RX11 TX11 63, w ∈ wsX11_broken := fun _ h => List.mem_cons_of_mem _ (List.mem_append_right _ h)
theorem lk_X11_broken_1 : Cond.fieldLink RX11 274 "PartedHouseModel" "brokenMany" "I" ∈ wsX11_broken := List.mem_of_getElem? (i := 1) rfl
abbrev rm_X11_broken : Room := { frames := 3, cells := 0, slots := 0, locals := 71 }
def vr_broken (a1 : Int32) (g0 : jm_M) (Post : Int32 → jm_M → Prop) : Prop := vr_isLaw a1 g0 (fun (r1 : Int32) => ((¬ r1 = 0) → (vr_waitingNow g0 (fun (r3 : Int32) => ((r3 ≤ 6) → (vr_shuffle a1 g0 (fun (g6 : jm_M) => Post (g6 56 0) g6))) ∧ ((¬ r3 ≤ 6) → (Post (-4) g0))))) ∧ ((r1 = 0) → (Post (-1) g0)))
set_option maxHeartbeats 4000000 in
set_option maxRecDepth 100000 in
theorem cr_broken (l : Launch) (D : va_G) (cs : Nat → ClassId) (Y X : va_W) (ad : Nat → Nat) (a1 : Int32) (g0 : jm_M) (Post : Int32 → jm_M → Prop) (hV : vr_broken a1 g0 Post) : JI (wr_d Y X cs ad) D vwCl (jt_tys cs) l yX11_broken wsX11_broken rm_X11_broken 0 0 [.ref (ad 0), .int a1] g0 Post := by
  refine jj_metI (cc := cX11_broken) (nL := 2) (ret := (some .int)) (by decide) rfl (Nat.le_of_ble_eq_true rfl) [(0, .ref (ad 0)), (1, .int a1)] rfl ?_
  intro p e s m args below meth c hC hnm
  rw [vr_broken] at hV
  refine jj_aload_n (pc2 := 1) hC dX11_broken_0 rfl 0 rfl rfl ?_
  refine jj_iload_n (pc2 := 2) hC dX11_broken_1 rfl 1 rfl rfl ?_
  refine jj_cVIp (pc2 := 5) (wd := wr_d Y X cs ad) (g := g0) (rest := []) hC (Y.length + 0) (jx_at (V := wr_W cs ad g0) rfl) rfl rfl (cr_isLaw l D cs Y X ad a1 g0 _ hV) (cwV 1 hC.1.2.2.2.2 gX11_broken_X11_isLaw rfl rfl rfl (by decide +kernel) ⟨by decide, by decide⟩) rfl (Nat.le_of_ble_eq_true rfl) _ rfl dX11_broken_2 ⟨Nat.zero_le _, Nat.zero_le _⟩ rfl (fun r1 hV => ?_)
  refine jj_if_ne (pc2 := 8) hC 10 dX11_broken_5 (by decide) rfl (fun h2 => ?_) (fun h2 => ?_)
  · have hV := hV.1 h2
    refine jj_aload_n (pc2 := 11) hC dX11_broken_10 rfl 0 rfl rfl ?_
    refine jj_cVIp (pc2 := 14) (wd := wr_d Y X cs ad) (g := g0) (rest := []) hC (Y.length + 0) (jx_at (V := wr_W cs ad g0) rfl) rfl rfl (cr_waitingNow l D cs Y X ad  g0 _ hV) (cwV 0 hC.1.2.2.2.2 gX11_broken_X11_waitingNow rfl rfl rfl (by decide +kernel) ⟨by decide, by decide⟩) rfl (Nat.le_of_ble_eq_true rfl) _ rfl dX11_broken_11 ⟨Nat.zero_le _, Nat.zero_le _⟩ rfl (fun r3 hV => ?_)
    refine jj_bipush (pc2 := 16) hC 6 dX11_broken_14 (by decide) rfl ?_
    refine jj_icmp_le (pc2 := 19) hC 22 dX11_broken_16 (by decide) rfl (fun h4 => ?_) (fun h4 => ?_)
    · have hV := hV.1 h4
      refine jj_aload_n (pc2 := 23) hC dX11_broken_22 rfl 0 rfl rfl ?_
      refine jj_iload_n (pc2 := 24) hC dX11_broken_23 rfl 1 rfl rfl ?_
      refine jj_cVV (pc2 := 27) (wd := wr_d Y X cs ad) (g := g0) (rest := []) hC (Y.length + 0) (jx_at (V := wr_W cs ad g0) rfl) rfl rfl (cr_shuffle l D cs Y X ad a1 g0 _ hV) (cwV 1 hC.1.2.2.2.2 gX11_broken_X11_shuffle rfl rfl rfl (by decide +kernel) ⟨by decide, by decide⟩) rfl (Nat.le_of_ble_eq_true rfl) _ rfl dX11_broken_24 ⟨Nat.zero_le _, Nat.zero_le _⟩ rfl (fun g6 hV => ?_)
      refine jj_aload_n (pc2 := 28) hC dX11_broken_27 rfl 0 rfl rfl ?_
      refine rg_56 (pc2 := 31) hC hi_X11_broken_X11 lk_X11_broken_1 dX11_broken_28 rfl ?_
      exact jj_iret hC dX11_broken_31 hV
    · have hV := hV.2 h4
      refine jj_bipush (pc2 := 21) hC (-4) dX11_broken_19 (by decide) rfl ?_
      exact jj_iret hC dX11_broken_21 hV
  · have hV := hV.2 h2
    refine jj_iconst (pc2 := 9) hC (-1) dX11_broken_8 (by decide) rfl ?_
    exact jj_iret hC dX11_broken_9 hV
theorem hi_X11_worst_X11 : ∀ w ∈ u_ws RX11 TX11 63, w ∈ wsX11_worst := fun _ h => List.mem_cons_of_mem _ (List.mem_append_right _ h)
theorem lk_X11_worst_3 : Cond.fieldLink RX11 131 "PartedHouseModel" "worst" "[I" ∈ wsX11_worst := List.mem_of_getElem? (i := 3) rfl
theorem lk_X11_worst_2 : Cond.fieldLink RX11 265 "PartedHouseModel" "many" "I" ∈ wsX11_worst := List.mem_of_getElem? (i := 2) rfl
theorem lk_X11_worst_1 : Cond.fieldLink RX11 274 "PartedHouseModel" "brokenMany" "I" ∈ wsX11_worst := List.mem_of_getElem? (i := 1) rfl
abbrev rm_X11_worst : Room := { frames := 3, cells := 0, slots := 0, locals := 71 }
def vr_worst (a1 : Int32) (a2 : Int32) (g0 : jm_M) (Post : Int32 → jm_M → Prop) : Prop := vr_isLaw a1 g0 (fun (r1 : Int32) => ((¬ r1 = 0) → (vr_waitingNow g0 (fun (r3 : Int32) => ((r3 ≤ 6) → (vr_shuffle a1 g0 (fun (g6 : jm_M) => (((g6 56 0) ≤ 0) → (Post (-1) g6)) ∧ ((¬ (g6 56 0) ≤ 0) → (vr_in a2 0 ((g6 51 0) - 1) g6 (fun (r8 : Int32) => ((r8 = 0) → (Post (-1) g6)) ∧ ((¬ r8 = 0) → ((vp_in a2 6) ∧ (Post (g6 54 a2.toNatClampNeg) g6))))))))) ∧ ((¬ r3 ≤ 6) → (Post (-4) g0))))) ∧ ((r1 = 0) → (Post (-1) g0)))
set_option maxHeartbeats 4000000 in
set_option maxRecDepth 100000 in
theorem cr_worst (l : Launch) (D : va_G) (cs : Nat → ClassId) (Y X : va_W) (ad : Nat → Nat) (a1 : Int32) (a2 : Int32) (g0 : jm_M) (Post : Int32 → jm_M → Prop) (hV : vr_worst a1 a2 g0 Post) : JI (wr_d Y X cs ad) D vwCl (jt_tys cs) l yX11_worst wsX11_worst rm_X11_worst 0 0 [.ref (ad 0), .int a1, .int a2] g0 Post := by
  refine jj_metI (cc := cX11_worst) (nL := 3) (ret := (some .int)) (by decide) rfl (Nat.le_of_ble_eq_true rfl) [(0, .ref (ad 0)), (1, .int a1), (2, .int a2)] rfl ?_
  intro p e s m args below meth c hC hnm
  rw [vr_worst] at hV
  refine jj_aload_n (pc2 := 1) hC dX11_worst_0 rfl 0 rfl rfl ?_
  refine jj_iload_n (pc2 := 2) hC dX11_worst_1 rfl 1 rfl rfl ?_
  refine jj_cVIp (pc2 := 5) (wd := wr_d Y X cs ad) (g := g0) (rest := []) hC (Y.length + 0) (jx_at (V := wr_W cs ad g0) rfl) rfl rfl (cr_isLaw l D cs Y X ad a1 g0 _ hV) (cwV 1 hC.1.2.2.2.2 gX11_worst_X11_isLaw rfl rfl rfl (by decide +kernel) ⟨by decide, by decide⟩) rfl (Nat.le_of_ble_eq_true rfl) _ rfl dX11_worst_2 ⟨Nat.zero_le _, Nat.zero_le _⟩ rfl (fun r1 hV => ?_)
  refine jj_if_ne (pc2 := 8) hC 10 dX11_worst_5 (by decide) rfl (fun h2 => ?_) (fun h2 => ?_)
  · have hV := hV.1 h2
    refine jj_aload_n (pc2 := 11) hC dX11_worst_10 rfl 0 rfl rfl ?_
    refine jj_cVIp (pc2 := 14) (wd := wr_d Y X cs ad) (g := g0) (rest := []) hC (Y.length + 0) (jx_at (V := wr_W cs ad g0) rfl) rfl rfl (cr_waitingNow l D cs Y X ad  g0 _ hV) (cwV 0 hC.1.2.2.2.2 gX11_worst_X11_waitingNow rfl rfl rfl (by decide +kernel) ⟨by decide, by decide⟩) rfl (Nat.le_of_ble_eq_true rfl) _ rfl dX11_worst_11 ⟨Nat.zero_le _, Nat.zero_le _⟩ rfl (fun r3 hV => ?_)
    refine jj_bipush (pc2 := 16) hC 6 dX11_worst_14 (by decide) rfl ?_
    refine jj_icmp_le (pc2 := 19) hC 22 dX11_worst_16 (by decide) rfl (fun h4 => ?_) (fun h4 => ?_)
    · have hV := hV.1 h4
      refine jj_aload_n (pc2 := 23) hC dX11_worst_22 rfl 0 rfl rfl ?_
      refine jj_iload_n (pc2 := 24) hC dX11_worst_23 rfl 1 rfl rfl ?_
      refine jj_cVV (pc2 := 27) (wd := wr_d Y X cs ad) (g := g0) (rest := []) hC (Y.length + 0) (jx_at (V := wr_W cs ad g0) rfl) rfl rfl (cr_shuffle l D cs Y X ad a1 g0 _ hV) (cwV 1 hC.1.2.2.2.2 gX11_worst_X11_shuffle rfl rfl rfl (by decide +kernel) ⟨by decide, by decide⟩) rfl (Nat.le_of_ble_eq_true rfl) _ rfl dX11_worst_24 ⟨Nat.zero_le _, Nat.zero_le _⟩ rfl (fun g6 hV => ?_)
      refine jj_aload_n (pc2 := 28) hC dX11_worst_27 rfl 0 rfl rfl ?_
      refine rg_56 (pc2 := 31) hC hi_X11_worst_X11 lk_X11_worst_1 dX11_worst_28 rfl ?_
      refine jj_if_le (pc2 := 34) hC 57 dX11_worst_31 (by decide) rfl (fun h7 => ?_) (fun h7 => ?_)
      · have hV := hV.1 h7
        refine jj_iconst (pc2 := 58) hC (-1) dX11_worst_57 (by decide) rfl ?_
        exact jj_iret hC dX11_worst_58 hV
      · have hV := hV.2 h7
        refine jj_iload_n (pc2 := 35) hC dX11_worst_34 rfl 2 rfl rfl ?_
        refine jj_iconst (pc2 := 36) hC 0 dX11_worst_35 (by decide) rfl ?_
        refine jj_aload_n (pc2 := 37) hC dX11_worst_36 rfl 0 rfl rfl ?_
        refine rg_51 (pc2 := 40) hC hi_X11_worst_X11 lk_X11_worst_2 dX11_worst_37 rfl ?_
        refine jj_iconst (pc2 := 41) hC 1 dX11_worst_40 (by decide) rfl ?_
        refine jj_isub (pc2 := 42) hC dX11_worst_41 rfl ?_
        refine jj_cSIp (pc2 := 45) (wd := wr_d Y X cs ad) (g := g6) (rest := []) hC (cr_in l D cs Y X ad a2 0 ((g6 51 0) - 1) g6 _ hV) (va_cwS 3 hC.1.2.2.2.2 gX11_worst_X11_in rfl rfl rfl (by decide +kernel) ⟨by decide, by decide⟩) rfl (Nat.le_of_ble_eq_true rfl) _ rfl dX11_worst_42 ⟨Nat.zero_le _, Nat.zero_le _⟩ rfl (fun r8 hV => ?_)
        refine jj_if_eq (pc2 := 48) hC 57 dX11_worst_45 (by decide) rfl (fun h9 => ?_) (fun h9 => ?_)
        · have hV := hV.1 h9
          refine jj_iconst (pc2 := 58) hC (-1) dX11_worst_57 (by decide) rfl ?_
          exact jj_iret hC dX11_worst_58 hV
        · have hV := hV.2 h9
          refine jj_aload_n (pc2 := 49) hC dX11_worst_48 rfl 0 rfl rfl ?_
          refine rg_54 (pc2 := 52) hC hi_X11_worst_X11 lk_X11_worst_3 dX11_worst_49 rfl ?_
          refine jj_iload_n (pc2 := 53) hC dX11_worst_52 rfl 2 rfl rfl ?_
          refine ra_54 (pc2 := 54) hC hV.1 dX11_worst_53 rfl ?_
          have hV := hV.2
          refine jj_goto hC 58 dX11_worst_54 (by decide) ?_
          exact jj_iret hC dX11_worst_58 hV
    · have hV := hV.2 h4
      refine jj_bipush (pc2 := 21) hC (-4) dX11_worst_19 (by decide) rfl ?_
      exact jj_iret hC dX11_worst_21 hV
  · have hV := hV.2 h2
    refine jj_iconst (pc2 := 9) hC (-1) dX11_worst_8 (by decide) rfl ?_
    exact jj_iret hC dX11_worst_9 hV
theorem hi_X11_orders_X11 : ∀ w ∈ u_ws RX11 TX11 63, w ∈ wsX11_orders := fun _ h => List.mem_cons_of_mem _ (List.mem_append_right _ h)
theorem lk_X11_orders_1 : Cond.fieldLink RX11 271 "PartedHouseModel" "ordersMany" "I" ∈ wsX11_orders := List.mem_of_getElem? (i := 1) rfl
abbrev rm_X11_orders : Room := { frames := 3, cells := 0, slots := 0, locals := 71 }
def vr_orders (g0 : jm_M) (Post : Int32 → jm_M → Prop) : Prop := vr_waitingNow g0 (fun (r1 : Int32) => ((r1 ≤ 6) → (vr_shuffle (-1) g0 (fun (g4 : jm_M) => Post (g4 55 0) g4))) ∧ ((¬ r1 ≤ 6) → (Post (-4) g0)))
set_option maxHeartbeats 4000000 in
set_option maxRecDepth 100000 in
theorem cr_orders (l : Launch) (D : va_G) (cs : Nat → ClassId) (Y X : va_W) (ad : Nat → Nat) (g0 : jm_M) (Post : Int32 → jm_M → Prop) (hV : vr_orders g0 Post) : JI (wr_d Y X cs ad) D vwCl (jt_tys cs) l yX11_orders wsX11_orders rm_X11_orders 0 0 [.ref (ad 0)] g0 Post := by
  refine jj_metI (cc := cX11_orders) (nL := 1) (ret := (some .int)) (by decide) rfl (Nat.le_of_ble_eq_true rfl) [(0, .ref (ad 0))] rfl ?_
  intro p e s m args below meth c hC hnm
  rw [vr_orders] at hV
  refine jj_aload_n (pc2 := 1) hC dX11_orders_0 rfl 0 rfl rfl ?_
  refine jj_cVIp (pc2 := 4) (wd := wr_d Y X cs ad) (g := g0) (rest := []) hC (Y.length + 0) (jx_at (V := wr_W cs ad g0) rfl) rfl rfl (cr_waitingNow l D cs Y X ad  g0 _ hV) (cwV 0 hC.1.2.2.2.2 gX11_orders_X11_waitingNow rfl rfl rfl (by decide +kernel) ⟨by decide, by decide⟩) rfl (Nat.le_of_ble_eq_true rfl) _ rfl dX11_orders_1 ⟨Nat.zero_le _, Nat.zero_le _⟩ rfl (fun r1 hV => ?_)
  refine jj_bipush (pc2 := 6) hC 6 dX11_orders_4 (by decide) rfl ?_
  refine jj_icmp_le (pc2 := 9) hC 12 dX11_orders_6 (by decide) rfl (fun h2 => ?_) (fun h2 => ?_)
  · have hV := hV.1 h2
    refine jj_aload_n (pc2 := 13) hC dX11_orders_12 rfl 0 rfl rfl ?_
    refine jj_iconst (pc2 := 14) hC (-1) dX11_orders_13 (by decide) rfl ?_
    refine jj_cVV (pc2 := 17) (wd := wr_d Y X cs ad) (g := g0) (rest := []) hC (Y.length + 0) (jx_at (V := wr_W cs ad g0) rfl) rfl rfl (cr_shuffle l D cs Y X ad (-1) g0 _ hV) (cwV 1 hC.1.2.2.2.2 gX11_orders_X11_shuffle rfl rfl rfl (by decide +kernel) ⟨by decide, by decide⟩) rfl (Nat.le_of_ble_eq_true rfl) _ rfl dX11_orders_14 ⟨Nat.zero_le _, Nat.zero_le _⟩ rfl (fun g4 hV => ?_)
    refine jj_aload_n (pc2 := 18) hC dX11_orders_17 rfl 0 rfl rfl ?_
    refine rg_55 (pc2 := 21) hC hi_X11_orders_X11 lk_X11_orders_1 dX11_orders_18 rfl ?_
    exact jj_iret hC dX11_orders_21 hV
  · have hV := hV.2 h2
    refine jj_bipush (pc2 := 11) hC (-4) dX11_orders_9 (by decide) rfl ?_
    exact jj_iret hC dX11_orders_11 hV
theorem hi_X11_beside_X11 : ∀ w ∈ u_ws RX11 TX11 63, w ∈ wsX11_beside := fun _ h => List.mem_cons_of_mem _ (List.mem_append_right _ h)
theorem lk_X11_beside_4 : Cond.fieldLink RX11 134 "PartedHouseModel" "unlike" "[I" ∈ wsX11_beside := List.mem_of_getElem? (i := 4) rfl
theorem lk_X11_beside_2 : Cond.fieldLink RX11 287 "PartedHouseModel" "besides" "I" ∈ wsX11_beside := List.mem_of_getElem? (i := 2) rfl
theorem lk_X11_beside_3 : Cond.fieldLink RX11 290 "PartedHouseModel" "isUnlike" "Z" ∈ wsX11_beside := List.mem_of_getElem? (i := 3) rfl
theorem lk_X11_beside_1 : Cond.fieldLink RX11 188 "PartedHouseModel" "ended" "Z" ∈ wsX11_beside := List.mem_of_getElem? (i := 1) rfl
abbrev rm_X11_beside : Room := { frames := 3, cells := 0, slots := 0, locals := 81 }
def vr_beside (a1 : Int32) (a2 : Int32) (g0 : jm_M) (Post : Int32 → jm_M → Prop) : Prop := vr_isRoutine a1 g0 (fun (r1 : Int32) => ((¬ r1 = 0) → (vr_runOld a1 a2 g0 (fun (r3 : Int32) (g4 : jm_M) => ∀ y5 : Int32, y5 = g4 23 0 → (vr_runNew a1 a2 g4 (fun (r6 : Int32) (g7 : jm_M) => ∀ g8 : jm_M, g8 = jm_s g7 57 ((g7 57 0) + 1) → (((¬ y5 = (g8 23 0)) → (((¬ (g8 58 0) = 0) → (Post 0 g8)) ∧ (((g8 58 0) = 0) → (∀ g11 : jm_M, g11 = jm_s g8 58 1 → (∀ g12 : jm_M, g12 = jm_a g11 59 0 ((g11 57 0) - 1) → (∀ g13 : jm_M, g13 = jm_a g12 59 1 a1 → (∀ g14 : jm_M, g14 = jm_a g13 59 2 a2 → (∀ g15 : jm_M, g15 = jm_a g14 59 3 r3 → (∀ g16 : jm_M, g16 = jm_a g15 59 4 r6 → (Post 0 g16)))))))))) ∧ ((y5 = (g8 23 0)) → (((r3 = r6) → (Post 1 g8)) ∧ ((¬ r3 = r6) → (((¬ (g8 23 0) = 0) → (((¬ (g8 58 0) = 0) → (Post 0 g8)) ∧ (((g8 58 0) = 0) → (∀ g20 : jm_M, g20 = jm_s g8 58 1 → (∀ g21 : jm_M, g21 = jm_a g20 59 0 ((g20 57 0) - 1) → (∀ g22 : jm_M, g22 = jm_a g21 59 1 a1 → (∀ g23 : jm_M, g23 = jm_a g22 59 2 a2 → (∀ g24 : jm_M, g24 = jm_a g23 59 3 r3 → (∀ g25 : jm_M, g25 = jm_a g24 59 4 r6 → (Post 0 g25)))))))))) ∧ (((g8 23 0) = 0) → (Post 1 g8)))))))))))) ∧ ((r1 = 0) → (Post (-1) g0)))
set_option maxHeartbeats 4000000 in
set_option maxRecDepth 100000 in
theorem cr_beside (l : Launch) (D : va_G) (cs : Nat → ClassId) (Y X : va_W) (ad : Nat → Nat) (a1 : Int32) (a2 : Int32) (g0 : jm_M) (Post : Int32 → jm_M → Prop) (hV : vr_beside a1 a2 g0 Post) : JI (wr_d Y X cs ad) D vwCl (jt_tys cs) l yX11_beside wsX11_beside rm_X11_beside 0 0 [.ref (ad 0), .int a1, .int a2] g0 Post := by
  refine jj_metI (cc := cX11_beside) (nL := 6) (ret := (some .int)) (by decide) rfl (Nat.le_of_ble_eq_true rfl) [(0, .ref (ad 0)), (1, .int a1), (2, .int a2)] rfl ?_
  intro p e s m args below meth c hC hnm
  rw [vr_beside] at hV
  refine jj_aload_n (pc2 := 1) hC dX11_beside_0 rfl 0 rfl rfl ?_
  refine jj_iload_n (pc2 := 2) hC dX11_beside_1 rfl 1 rfl rfl ?_
  refine jj_cVIp (pc2 := 5) (wd := wr_d Y X cs ad) (g := g0) (rest := []) hC (Y.length + 0) (jx_at (V := wr_W cs ad g0) rfl) rfl rfl (cr_isRoutine l D cs Y X ad a1 g0 _ hV) (cwV 1 hC.1.2.2.2.2 gX11_beside_X11_isRoutine rfl rfl rfl (by decide +kernel) ⟨by decide, by decide⟩) rfl (Nat.le_of_ble_eq_true rfl) _ rfl dX11_beside_2 ⟨Nat.zero_le _, Nat.zero_le _⟩ rfl (fun r1 hV => ?_)
  refine jj_if_ne (pc2 := 8) hC 10 dX11_beside_5 (by decide) rfl (fun h2 => ?_) (fun h2 => ?_)
  · have hV := hV.1 h2
    refine jj_aload_n (pc2 := 11) hC dX11_beside_10 rfl 0 rfl rfl ?_
    refine jj_iload_n (pc2 := 12) hC dX11_beside_11 rfl 1 rfl rfl ?_
    refine jj_iload_n (pc2 := 13) hC dX11_beside_12 rfl 2 rfl rfl ?_
    refine jj_cVI (pc2 := 16) (wd := wr_d Y X cs ad) (g := g0) (rest := []) hC (Y.length + 0) (jx_at (V := wr_W cs ad g0) rfl) rfl rfl (cr_runOld l D cs Y X ad a1 a2 g0 _ hV) (cwV 2 hC.1.2.2.2.2 gX11_beside_X11_runOld rfl rfl rfl (by decide +kernel) ⟨by decide, by decide⟩) rfl (Nat.le_of_ble_eq_true rfl) _ rfl dX11_beside_13 ⟨Nat.zero_le _, Nat.zero_le _⟩ rfl (fun r3 g4 hV => ?_)
    refine jj_istore_n (pc2 := 17) hC [(3, .int r3), (0, .ref (ad 0)), (1, .int a1), (2, .int a2)] dX11_beside_16 rfl (by decide) rfl rfl ?_
    refine jj_aload_n (pc2 := 18) hC dX11_beside_17 rfl 1 rfl rfl ?_
    refine rg_23 (pc2 := 21) hC hi_X11_beside_X11 lk_X11_beside_1 dX11_beside_18 rfl ?_
    refine jj_topi (fun y5 ey5 => ?_)
    have hV := hV y5 ey5
    refine jj_istore (pc2 := 23) hC [(4, .int y5), (3, .int r3), (0, .ref (ad 0)), (1, .int a1), (2, .int a2)] dX11_beside_21 (by decide) rfl rfl ?_
    refine jj_aload_n (pc2 := 24) hC dX11_beside_23 rfl 2 rfl rfl ?_
    refine jj_iload_n (pc2 := 25) hC dX11_beside_24 rfl 3 rfl rfl ?_
    refine jj_iload_n (pc2 := 26) hC dX11_beside_25 rfl 4 rfl rfl ?_
    refine jj_cVI (pc2 := 29) (wd := wr_d Y X cs ad) (g := g4) (rest := []) hC (Y.length + 0) (jx_at (V := wr_W cs ad g4) rfl) rfl rfl (cr_runNew l D cs Y X ad a1 a2 g4 _ hV) (cwV 2 hC.1.2.2.2.2 gX11_beside_X11_runNew rfl rfl rfl (by decide +kernel) ⟨by decide, by decide⟩) rfl (Nat.le_of_ble_eq_true rfl) _ rfl dX11_beside_26 ⟨Nat.zero_le _, Nat.zero_le _⟩ rfl (fun r6 g7 hV => ?_)
    refine jj_istore (pc2 := 31) hC [(5, .int r6), (4, .int y5), (3, .int r3), (0, .ref (ad 0)), (1, .int a1), (2, .int a2)] dX11_beside_29 (by decide) rfl rfl ?_
    refine jj_aload_n (pc2 := 32) hC dX11_beside_31 rfl 3 rfl rfl ?_
    refine jj_dup (pc2 := 33) hC dX11_beside_32 rfl rfl ?_
    refine rg_57 (pc2 := 36) hC hi_X11_beside_X11 lk_X11_beside_2 dX11_beside_33 rfl ?_
    refine jj_iconst (pc2 := 37) hC 1 dX11_beside_36 (by decide) rfl ?_
    refine jj_iadd (pc2 := 38) hC dX11_beside_37 rfl ?_
    refine rp_57 (pc2 := 41) hC hi_X11_beside_X11 lk_X11_beside_2 dX11_beside_38 rfl (fun g8 eg8 => ?_)
    have hV := hV g8 eg8
    refine jj_iload (pc2 := 43) hC dX11_beside_41 1 rfl rfl ?_
    refine jj_aload_n (pc2 := 44) hC dX11_beside_43 rfl 3 rfl rfl ?_
    refine rg_23 (pc2 := 47) hC hi_X11_beside_X11 lk_X11_beside_1 dX11_beside_44 rfl ?_
    refine jj_icmp_ne (pc2 := 50) hC 65 dX11_beside_47 (by decide) rfl (fun h9 => ?_) (fun h9 => ?_)
    · have hV := hV.1 h9
      refine jj_aload_n (pc2 := 66) hC dX11_beside_65 rfl 3 rfl rfl ?_
      refine rg_58 (pc2 := 69) hC hi_X11_beside_X11 lk_X11_beside_3 dX11_beside_66 rfl ?_
      refine jj_if_ne (pc2 := 72) hC 118 dX11_beside_69 (by decide) rfl (fun h10 => ?_) (fun h10 => ?_)
      · have hV := hV.1 h10
        refine jj_iconst (pc2 := 119) hC 0 dX11_beside_118 (by decide) rfl ?_
        exact jj_iret hC dX11_beside_119 hV
      · have hV := hV.2 h10
        refine jj_aload_n (pc2 := 73) hC dX11_beside_72 rfl 3 rfl rfl ?_
        refine jj_iconst (pc2 := 74) hC 1 dX11_beside_73 (by decide) rfl ?_
        refine rp_58 (pc2 := 77) hC hi_X11_beside_X11 lk_X11_beside_3 jj_nb1 dX11_beside_74 rfl (fun g11 eg11 => ?_)
        have hV := hV g11 eg11
        refine jj_aload_n (pc2 := 78) hC dX11_beside_77 rfl 3 rfl rfl ?_
        refine rg_59 (pc2 := 81) hC hi_X11_beside_X11 lk_X11_beside_4 dX11_beside_78 rfl ?_
        refine jj_iconst (pc2 := 82) hC 0 dX11_beside_81 (by decide) rfl ?_
        refine jj_aload_n (pc2 := 83) hC dX11_beside_82 rfl 3 rfl rfl ?_
        refine rg_57 (pc2 := 86) hC hi_X11_beside_X11 lk_X11_beside_2 dX11_beside_83 rfl ?_
        refine jj_iconst (pc2 := 87) hC 1 dX11_beside_86 (by decide) rfl ?_
        refine jj_isub (pc2 := 88) hC dX11_beside_87 rfl ?_
        refine rs_59 (pc2 := 89) hC (jx_lit (by decide) (by decide)) dX11_beside_88 rfl (fun g12 eg12 => ?_)
        have hV := hV g12 eg12
        refine jj_aload_n (pc2 := 90) hC dX11_beside_89 rfl 3 rfl rfl ?_
        refine rg_59 (pc2 := 93) hC hi_X11_beside_X11 lk_X11_beside_4 dX11_beside_90 rfl ?_
        refine jj_iconst (pc2 := 94) hC 1 dX11_beside_93 (by decide) rfl ?_
        refine jj_iload_n (pc2 := 95) hC dX11_beside_94 rfl 4 rfl rfl ?_
        refine rs_59 (pc2 := 96) hC (jx_lit (by decide) (by decide)) dX11_beside_95 rfl (fun g13 eg13 => ?_)
        have hV := hV g13 eg13
        refine jj_aload_n (pc2 := 97) hC dX11_beside_96 rfl 3 rfl rfl ?_
        refine rg_59 (pc2 := 100) hC hi_X11_beside_X11 lk_X11_beside_4 dX11_beside_97 rfl ?_
        refine jj_iconst (pc2 := 101) hC 2 dX11_beside_100 (by decide) rfl ?_
        refine jj_iload_n (pc2 := 102) hC dX11_beside_101 rfl 5 rfl rfl ?_
        refine rs_59 (pc2 := 103) hC (jx_lit (by decide) (by decide)) dX11_beside_102 rfl (fun g14 eg14 => ?_)
        have hV := hV g14 eg14
        refine jj_aload_n (pc2 := 104) hC dX11_beside_103 rfl 3 rfl rfl ?_
        refine rg_59 (pc2 := 107) hC hi_X11_beside_X11 lk_X11_beside_4 dX11_beside_104 rfl ?_
        refine jj_iconst (pc2 := 108) hC 3 dX11_beside_107 (by decide) rfl ?_
        refine jj_iload_n (pc2 := 109) hC dX11_beside_108 rfl 2 rfl rfl ?_
        refine rs_59 (pc2 := 110) hC (jx_lit (by decide) (by decide)) dX11_beside_109 rfl (fun g15 eg15 => ?_)
        have hV := hV g15 eg15
        refine jj_aload_n (pc2 := 111) hC dX11_beside_110 rfl 3 rfl rfl ?_
        refine rg_59 (pc2 := 114) hC hi_X11_beside_X11 lk_X11_beside_4 dX11_beside_111 rfl ?_
        refine jj_iconst (pc2 := 115) hC 4 dX11_beside_114 (by decide) rfl ?_
        refine jj_iload (pc2 := 117) hC dX11_beside_115 0 rfl rfl ?_
        refine rs_59 (pc2 := 118) hC (jx_lit (by decide) (by decide)) dX11_beside_117 rfl (fun g16 eg16 => ?_)
        have hV := hV g16 eg16
        refine jj_iconst (pc2 := 119) hC 0 dX11_beside_118 (by decide) rfl ?_
        exact jj_iret hC dX11_beside_119 hV
    · have hV := hV.2 h9
      refine jj_iload_n (pc2 := 51) hC dX11_beside_50 rfl 2 rfl rfl ?_
      refine jj_iload (pc2 := 53) hC dX11_beside_51 0 rfl rfl ?_
      refine jj_icmp_eq (pc2 := 56) hC 63 dX11_beside_53 (by decide) rfl (fun h17 => ?_) (fun h17 => ?_)
      · have hV := hV.1 h17
        refine jj_iconst (pc2 := 64) hC 1 dX11_beside_63 (by decide) rfl ?_
        exact jj_iret hC dX11_beside_64 hV
      · have hV := hV.2 h17
        refine jj_aload_n (pc2 := 57) hC dX11_beside_56 rfl 3 rfl rfl ?_
        refine rg_23 (pc2 := 60) hC hi_X11_beside_X11 lk_X11_beside_1 dX11_beside_57 rfl ?_
        refine jj_if_ne (pc2 := 63) hC 65 dX11_beside_60 (by decide) rfl (fun h18 => ?_) (fun h18 => ?_)
        · have hV := hV.1 h18
          refine jj_aload_n (pc2 := 66) hC dX11_beside_65 rfl 3 rfl rfl ?_
          refine rg_58 (pc2 := 69) hC hi_X11_beside_X11 lk_X11_beside_3 dX11_beside_66 rfl ?_
          refine jj_if_ne (pc2 := 72) hC 118 dX11_beside_69 (by decide) rfl (fun h19 => ?_) (fun h19 => ?_)
          · have hV := hV.1 h19
            refine jj_iconst (pc2 := 119) hC 0 dX11_beside_118 (by decide) rfl ?_
            exact jj_iret hC dX11_beside_119 hV
          · have hV := hV.2 h19
            refine jj_aload_n (pc2 := 73) hC dX11_beside_72 rfl 3 rfl rfl ?_
            refine jj_iconst (pc2 := 74) hC 1 dX11_beside_73 (by decide) rfl ?_
            refine rp_58 (pc2 := 77) hC hi_X11_beside_X11 lk_X11_beside_3 jj_nb1 dX11_beside_74 rfl (fun g20 eg20 => ?_)
            have hV := hV g20 eg20
            refine jj_aload_n (pc2 := 78) hC dX11_beside_77 rfl 3 rfl rfl ?_
            refine rg_59 (pc2 := 81) hC hi_X11_beside_X11 lk_X11_beside_4 dX11_beside_78 rfl ?_
            refine jj_iconst (pc2 := 82) hC 0 dX11_beside_81 (by decide) rfl ?_
            refine jj_aload_n (pc2 := 83) hC dX11_beside_82 rfl 3 rfl rfl ?_
            refine rg_57 (pc2 := 86) hC hi_X11_beside_X11 lk_X11_beside_2 dX11_beside_83 rfl ?_
            refine jj_iconst (pc2 := 87) hC 1 dX11_beside_86 (by decide) rfl ?_
            refine jj_isub (pc2 := 88) hC dX11_beside_87 rfl ?_
            refine rs_59 (pc2 := 89) hC (jx_lit (by decide) (by decide)) dX11_beside_88 rfl (fun g21 eg21 => ?_)
            have hV := hV g21 eg21
            refine jj_aload_n (pc2 := 90) hC dX11_beside_89 rfl 3 rfl rfl ?_
            refine rg_59 (pc2 := 93) hC hi_X11_beside_X11 lk_X11_beside_4 dX11_beside_90 rfl ?_
            refine jj_iconst (pc2 := 94) hC 1 dX11_beside_93 (by decide) rfl ?_
            refine jj_iload_n (pc2 := 95) hC dX11_beside_94 rfl 4 rfl rfl ?_
            refine rs_59 (pc2 := 96) hC (jx_lit (by decide) (by decide)) dX11_beside_95 rfl (fun g22 eg22 => ?_)
            have hV := hV g22 eg22
            refine jj_aload_n (pc2 := 97) hC dX11_beside_96 rfl 3 rfl rfl ?_
            refine rg_59 (pc2 := 100) hC hi_X11_beside_X11 lk_X11_beside_4 dX11_beside_97 rfl ?_
            refine jj_iconst (pc2 := 101) hC 2 dX11_beside_100 (by decide) rfl ?_
            refine jj_iload_n (pc2 := 102) hC dX11_beside_101 rfl 5 rfl rfl ?_
            refine rs_59 (pc2 := 103) hC (jx_lit (by decide) (by decide)) dX11_beside_102 rfl (fun g23 eg23 => ?_)
            have hV := hV g23 eg23
            refine jj_aload_n (pc2 := 104) hC dX11_beside_103 rfl 3 rfl rfl ?_
            refine rg_59 (pc2 := 107) hC hi_X11_beside_X11 lk_X11_beside_4 dX11_beside_104 rfl ?_
            refine jj_iconst (pc2 := 108) hC 3 dX11_beside_107 (by decide) rfl ?_
            refine jj_iload_n (pc2 := 109) hC dX11_beside_108 rfl 2 rfl rfl ?_
            refine rs_59 (pc2 := 110) hC (jx_lit (by decide) (by decide)) dX11_beside_109 rfl (fun g24 eg24 => ?_)
            have hV := hV g24 eg24
            refine jj_aload_n (pc2 := 111) hC dX11_beside_110 rfl 3 rfl rfl ?_
            refine rg_59 (pc2 := 114) hC hi_X11_beside_X11 lk_X11_beside_4 dX11_beside_111 rfl ?_
            refine jj_iconst (pc2 := 115) hC 4 dX11_beside_114 (by decide) rfl ?_
            refine jj_iload (pc2 := 117) hC dX11_beside_115 0 rfl rfl ?_
            refine rs_59 (pc2 := 118) hC (jx_lit (by decide) (by decide)) dX11_beside_117 rfl (fun g25 eg25 => ?_)
            have hV := hV g25 eg25
            refine jj_iconst (pc2 := 119) hC 0 dX11_beside_118 (by decide) rfl ?_
            exact jj_iret hC dX11_beside_119 hV
        · have hV := hV.2 h18
          refine jj_iconst (pc2 := 64) hC 1 dX11_beside_63 (by decide) rfl ?_
          exact jj_iret hC dX11_beside_64 hV
  · have hV := hV.2 h2
    refine jj_iconst (pc2 := 9) hC (-1) dX11_beside_8 (by decide) rfl ?_
    exact jj_iret hC dX11_beside_9 hV
theorem hi_X11_unlike_X11 : ∀ w ∈ u_ws RX11 TX11 63, w ∈ wsX11_unlike := fun _ h => List.mem_cons_of_mem _ (List.mem_append_right _ h)
theorem lk_X11_unlike_2 : Cond.fieldLink RX11 134 "PartedHouseModel" "unlike" "[I" ∈ wsX11_unlike := List.mem_of_getElem? (i := 2) rfl
theorem lk_X11_unlike_1 : Cond.fieldLink RX11 290 "PartedHouseModel" "isUnlike" "Z" ∈ wsX11_unlike := List.mem_of_getElem? (i := 1) rfl
abbrev rm_X11_unlike : Room := { frames := 1, cells := 0, slots := 0, locals := 22 }
def vr_unlike (a1 : Int32) (g0 : jm_M) (Post : Int32 → Prop) : Prop := vr_in a1 0 4 g0 (fun (r1 : Int32) => ((¬ r1 = 0) → ((((g0 58 0) = 0) → (Post (-2))) ∧ ((¬ (g0 58 0) = 0) → ((vp_in a1 5) ∧ (Post (g0 59 a1.toNatClampNeg)))))) ∧ ((r1 = 0) → (Post (-1))))
set_option maxHeartbeats 4000000 in
set_option maxRecDepth 100000 in
theorem cr_unlike (l : Launch) (D : va_G) (cs : Nat → ClassId) (Y X : va_W) (ad : Nat → Nat) (a1 : Int32) (g0 : jm_M) (Post : Int32 → Prop) (hV : vr_unlike a1 g0 Post) : JI (wr_d Y X cs ad) D vwCl (jt_tys cs) l yX11_unlike wsX11_unlike rm_X11_unlike 0 0 [.ref (ad 0), .int a1] g0 (fun r g2 => Post r ∧ g2 = g0) := by
  refine jj_metI (cc := cX11_unlike) (nL := 2) (ret := (some .int)) (by decide) rfl (Nat.le_of_ble_eq_true rfl) [(0, .ref (ad 0)), (1, .int a1)] rfl ?_
  intro p e s m args below meth c hC hnm
  rw [vr_unlike] at hV
  refine jj_iload_n (pc2 := 1) hC dX11_unlike_0 rfl 1 rfl rfl ?_
  refine jj_iconst (pc2 := 2) hC 0 dX11_unlike_1 (by decide) rfl ?_
  refine jj_iconst (pc2 := 3) hC 4 dX11_unlike_2 (by decide) rfl ?_
  refine jj_cSIp (pc2 := 6) (wd := wr_d Y X cs ad) (g := g0) (rest := []) hC (cr_in l D cs Y X ad a1 0 4 g0 _ hV) (va_cwS 3 hC.1.2.2.2.2 gX11_unlike_X11_in rfl rfl rfl (by decide +kernel) ⟨by decide, by decide⟩) rfl (Nat.le_of_ble_eq_true rfl) _ rfl dX11_unlike_3 ⟨Nat.zero_le _, Nat.zero_le _⟩ rfl (fun r1 hV => ?_)
  refine jj_if_ne (pc2 := 9) hC 13 dX11_unlike_6 (by decide) rfl (fun h2 => ?_) (fun h2 => ?_)
  · have hV := hV.1 h2
    refine jj_aload_n (pc2 := 14) hC dX11_unlike_13 rfl 0 rfl rfl ?_
    refine rg_58 (pc2 := 17) hC hi_X11_unlike_X11 lk_X11_unlike_1 dX11_unlike_14 rfl ?_
    refine jj_if_eq (pc2 := 20) hC 29 dX11_unlike_17 (by decide) rfl (fun h3 => ?_) (fun h3 => ?_)
    · have hV := hV.1 h3
      refine jj_bipush (pc2 := 31) hC (-2) dX11_unlike_29 (by decide) rfl ?_
      exact jj_iret hC dX11_unlike_31 ⟨hV, rfl⟩
    · have hV := hV.2 h3
      refine jj_aload_n (pc2 := 21) hC dX11_unlike_20 rfl 0 rfl rfl ?_
      refine rg_59 (pc2 := 24) hC hi_X11_unlike_X11 lk_X11_unlike_2 dX11_unlike_21 rfl ?_
      refine jj_iload_n (pc2 := 25) hC dX11_unlike_24 rfl 1 rfl rfl ?_
      refine ra_59 (pc2 := 26) hC hV.1 dX11_unlike_25 rfl ?_
      have hV := hV.2
      refine jj_goto hC 31 dX11_unlike_26 (by decide) ?_
      exact jj_iret hC dX11_unlike_31 ⟨hV, rfl⟩
  · have hV := hV.2 h2
    refine jj_iconst (pc2 := 10) hC (-1) dX11_unlike_9 (by decide) rfl ?_
    refine jj_goto hC 31 dX11_unlike_10 (by decide) ?_
    exact jj_iret hC dX11_unlike_31 ⟨hV, rfl⟩
theorem hi_X11_differ_X11 : ∀ w ∈ u_ws RX11 TX11 63, w ∈ wsX11_differ := fun _ h => List.mem_cons_of_mem _ (List.mem_append_right _ h)
theorem lk_X11_differ_3 : Cond.fieldLink RX11 34 "PartedHouseModel" "fresh" "[I" ∈ wsX11_differ := List.mem_of_getElem? (i := 3) rfl
theorem lk_X11_differ_2 : Cond.fieldLink RX11 31 "PartedHouseModel" "old" "[I" ∈ wsX11_differ := List.mem_of_getElem? (i := 2) rfl
theorem lk_X11_differ_1 : Cond.fieldLink RX11 155 "PartedHouseModel" "tables" "I" ∈ wsX11_differ := List.mem_of_getElem? (i := 1) rfl
abbrev rm_X11_differ : Room := { frames := 0, cells := 0, slots := 0, locals := 0 }
def vr_differ_4 (g0 : jm_M) (Post : Int32 → Prop) : Nat → Int32 → Int32 → Prop
  | 0, _, _ => False
  | f + 1, x1, x2 => ((((8 : Int32) * (g0 3 0)) ≤ x2) → (Post x1)) ∧ ((¬ ((8 : Int32) * (g0 3 0)) ≤ x2) → ((vp_in x2 128) ∧ ((vp_in x2 128) ∧ (((¬ (g0 11 x2.toNatClampNeg) = (g0 12 x2.toNatClampNeg)) → (∀ y3 : Int32, y3 = x1 + 1 → (vr_differ_4 g0 Post f y3 (x2 + 1)))) ∧ (((g0 11 x2.toNatClampNeg) = (g0 12 x2.toNatClampNeg)) → (∀ y4 : Int32, y4 = x1 + 0 → (vr_differ_4 g0 Post f y4 (x2 + 1))))))))
def vr_differ (g0 : jm_M) (Post : Int32 → Prop) : Prop := ∃ n5 : Nat, vr_differ_4 g0 Post n5 0 0
set_option maxHeartbeats 4000000 in
set_option maxRecDepth 100000 in
theorem ar_differ_4 {p : Program} {l : Launch} {e : Env} {s : State} {m : MethodId} {args : Array Value} {below : List Frame} {meth : Method} {c : Code} {D : va_G} {cs : Nat → ClassId} {Y X : va_W} {ad : Nat → Nat} {g0 : jm_M} (hC : JC p s m args meth c D vwCl (va_A (wr_d Y X cs ad g0) s.heap.size) 3 cX11_differ (some .int) wsX11_differ RX11 (jt_tys cs)) (Post : Int32 → Prop) : ∀ (f : Nat) (x1 : Int32) (x2 : Int32), vr_differ_4 g0 Post f x1 x2 → JJ (wr_d Y X cs ad) p l e rm_X11_differ s m args below meth c D vwCl (va_A (wr_d Y X cs ad g0) s.heap.size) 3 0 0 (MQ below (jj_QI (wr_d Y X cs ad) D vwCl (jt_tys cs) g0 s.heap.size (fun r g2 => Post r ∧ g2 = g0)) args s 0 0 (va_A (wr_d Y X cs ad g0) s.heap.size)) 4 [(0, .ref (ad 0)), (1, .int x1), (2, .int x2)] [] g0 := by
  intro f
  induction f with
  | zero => intro x1 x2 hV; exact hV.elim
  | succ f ih =>
    intro x1 x2 hV
    rw [vr_differ_4] at hV
    refine jj_iload_n (pc2 := 5) hC dX11_differ_4 rfl 2 rfl rfl ?_
    refine jj_bipush (pc2 := 7) hC 8 dX11_differ_5 (by decide) rfl ?_
    refine jj_aload_n (pc2 := 8) hC dX11_differ_7 rfl 0 rfl rfl ?_
    refine rg_3 (pc2 := 11) hC hi_X11_differ_X11 lk_X11_differ_1 dX11_differ_8 rfl ?_
    refine jj_imul (pc2 := 12) hC dX11_differ_11 rfl ?_
    refine jj_icmp_ge (pc2 := 15) hC 44 dX11_differ_12 (by decide) rfl (fun h1 => ?_) (fun h1 => ?_)
    · have hV := hV.1 h1
      refine jj_iload_n (pc2 := 45) hC dX11_differ_44 rfl 1 rfl rfl ?_
      exact jj_iret hC dX11_differ_45 ⟨hV, rfl⟩
    · have hV := hV.2 h1
      refine jj_iload_n (pc2 := 16) hC dX11_differ_15 rfl 1 rfl rfl ?_
      refine jj_aload_n (pc2 := 17) hC dX11_differ_16 rfl 0 rfl rfl ?_
      refine rg_11 (pc2 := 20) hC hi_X11_differ_X11 lk_X11_differ_2 dX11_differ_17 rfl ?_
      refine jj_iload_n (pc2 := 21) hC dX11_differ_20 rfl 2 rfl rfl ?_
      refine ra_11 (pc2 := 22) hC hV.1 dX11_differ_21 rfl ?_
      have hV := hV.2
      refine jj_aload_n (pc2 := 23) hC dX11_differ_22 rfl 0 rfl rfl ?_
      refine rg_12 (pc2 := 26) hC hi_X11_differ_X11 lk_X11_differ_3 dX11_differ_23 rfl ?_
      refine jj_iload_n (pc2 := 27) hC dX11_differ_26 rfl 2 rfl rfl ?_
      refine ra_12 (pc2 := 28) hC hV.1 dX11_differ_27 rfl ?_
      have hV := hV.2
      refine jj_icmp_ne (pc2 := 31) hC 35 dX11_differ_28 (by decide) rfl (fun h2 => ?_) (fun h2 => ?_)
      · have hV := hV.1 h2
        refine jj_iconst (pc2 := 36) hC 1 dX11_differ_35 (by decide) rfl ?_
        refine jj_iadd (pc2 := 37) hC dX11_differ_36 rfl ?_
        refine jj_topi (fun y3 ey3 => ?_)
        have hV := hV y3 ey3
        refine jj_istore_n (pc2 := 38) hC [(1, .int y3), (0, .ref (ad 0)), (2, .int x2)] dX11_differ_37 rfl (by decide) rfl rfl ?_
        refine jj_iinc (pc2 := 41) hC (x2 + 1) [(2, .int (x2 + 1)), (1, .int y3), (0, .ref (ad 0))] dX11_differ_38 2 rfl rfl (by decide) rfl rfl ?_
        refine jj_goto hC 4 dX11_differ_41 (by decide) ?_
        exact jj_sub (lv2 := [(0, .ref (ad 0)), (1, .int y3), (2, .int (x2 + 1))]) [2, 1, 0] rfl (ih y3 (x2 + 1) hV)
      · have hV := hV.2 h2
        refine jj_iconst (pc2 := 32) hC 0 dX11_differ_31 (by decide) rfl ?_
        refine jj_goto hC 36 dX11_differ_32 (by decide) ?_
        refine jj_iadd (pc2 := 37) hC dX11_differ_36 rfl ?_
        refine jj_topi (fun y4 ey4 => ?_)
        have hV := hV y4 ey4
        refine jj_istore_n (pc2 := 38) hC [(1, .int y4), (0, .ref (ad 0)), (2, .int x2)] dX11_differ_37 rfl (by decide) rfl rfl ?_
        refine jj_iinc (pc2 := 41) hC (x2 + 1) [(2, .int (x2 + 1)), (1, .int y4), (0, .ref (ad 0))] dX11_differ_38 2 rfl rfl (by decide) rfl rfl ?_
        refine jj_goto hC 4 dX11_differ_41 (by decide) ?_
        exact jj_sub (lv2 := [(0, .ref (ad 0)), (1, .int y4), (2, .int (x2 + 1))]) [2, 1, 0] rfl (ih y4 (x2 + 1) hV)
set_option maxHeartbeats 4000000 in
set_option maxRecDepth 100000 in
theorem cr_differ (l : Launch) (D : va_G) (cs : Nat → ClassId) (Y X : va_W) (ad : Nat → Nat) (g0 : jm_M) (Post : Int32 → Prop) (hV : vr_differ g0 Post) : JI (wr_d Y X cs ad) D vwCl (jt_tys cs) l yX11_differ wsX11_differ rm_X11_differ 0 0 [.ref (ad 0)] g0 (fun r g2 => Post r ∧ g2 = g0) := by
  refine jj_metI (cc := cX11_differ) (nL := 3) (ret := (some .int)) (by decide) rfl (Nat.le_of_ble_eq_true rfl) [(0, .ref (ad 0))] rfl ?_
  intro p e s m args below meth c hC hnm
  rw [vr_differ] at hV
  refine jj_iconst (pc2 := 1) hC 0 dX11_differ_0 (by decide) rfl ?_
  refine jj_istore_n (pc2 := 2) hC [(1, .int 0), (0, .ref (ad 0))] dX11_differ_1 rfl (by decide) rfl rfl ?_
  refine jj_iconst (pc2 := 3) hC 0 dX11_differ_2 (by decide) rfl ?_
  refine jj_istore_n (pc2 := 4) hC [(2, .int 0), (1, .int 0), (0, .ref (ad 0))] dX11_differ_3 rfl (by decide) rfl rfl ?_
  obtain ⟨n5, hV⟩ := hV
  refine jj_sub (lv2 := [(0, .ref (ad 0)), (1, .int 0), (2, .int 0)]) [2, 1, 0] rfl (ar_differ_4 hC Post n5 0 0 hV)
theorem hi_X11_sync_X11 : ∀ w ∈ u_ws RX11 TX11 63, w ∈ wsX11_sync := fun _ h => List.mem_cons_of_mem _ (List.mem_append_right _ h)
theorem lk_X11_sync_2 : Cond.fieldLink RX11 31 "PartedHouseModel" "old" "[I" ∈ wsX11_sync := List.mem_of_getElem? (i := 2) rfl
theorem lk_X11_sync_1 : Cond.fieldLink RX11 34 "PartedHouseModel" "fresh" "[I" ∈ wsX11_sync := List.mem_of_getElem? (i := 1) rfl
theorem lk_X11_sync_4 : Cond.fieldLink RX11 110 "PartedHouseModel" "waits" "[Z" ∈ wsX11_sync := List.mem_of_getElem? (i := 4) rfl
theorem lk_X11_sync_3 : Cond.fieldLink RX11 242 "PartedHouseModel" "sent" "I" ∈ wsX11_sync := List.mem_of_getElem? (i := 3) rfl
theorem lk_X11_sync_6 : Cond.fieldLink RX11 290 "PartedHouseModel" "isUnlike" "Z" ∈ wsX11_sync := List.mem_of_getElem? (i := 6) rfl
theorem lk_X11_sync_5 : Cond.fieldLink RX11 287 "PartedHouseModel" "besides" "I" ∈ wsX11_sync := List.mem_of_getElem? (i := 5) rfl
abbrev rm_X11_sync : Room := { frames := 1, cells := 0, slots := 0, locals := 22 }
def vr_sync_7 (x1 : Int32) (K32 : jm_M → Prop) (Post : Int32 → jm_M → Prop) : Nat → Int32 → jm_M → Prop
  | 0, _, _ => False
  | f + 1, x2, g => ((128 ≤ x2) → (K32 g)) ∧ ((¬ 128 ≤ x2) → ((vp_in x2 128) ∧ ((vp_in x2 128) ∧ (∀ g3 : jm_M, g3 = jm_a g 12 x2 (g 11 x2.toNatClampNeg) → (vr_sync_7 x1 K32 Post f (x2 + 1) g3)))))
def vr_sync_34 (x1 : Int32) (K55 : jm_M → Prop) (Post : Int32 → jm_M → Prop) : Nat → Int32 → jm_M → Prop
  | 0, _, _ => False
  | f + 1, x2, g => (((g 40 0) ≤ x2) → (K55 g)) ∧ ((¬ (g 40 0) ≤ x2) → ((vp_in x2 2000) ∧ (∀ g6 : jm_M, g6 = jm_a g 45 x2 0 → (vr_sync_34 x1 K55 Post f (x2 + 1) g6))))
def vr_sync (g0 : jm_M) (Post : Int32 → jm_M → Prop) : Prop := vr_differ g0 (fun (r1 : Int32) => ∃ n11 : Nat, vr_sync_7 r1 (fun (g4 : jm_M) => ∃ n10 : Nat, vr_sync_34 r1 (fun (g7 : jm_M) => ∀ g8 : jm_M, g8 = jm_s g7 57 0 → (∀ g9 : jm_M, g9 = jm_s g8 58 0 → (Post r1 g9))) Post n10 0 g4) Post n11 0 g0)
set_option maxHeartbeats 4000000 in
set_option maxRecDepth 100000 in
theorem ar_sync_7 {p : Program} {l : Launch} {e : Env} {s : State} {m : MethodId} {args : Array Value} {below : List Frame} {meth : Method} {c : Code} {D : va_G} {cs : Nat → ClassId} {Y X : va_W} {ad : Nat → Nat} {g0 : jm_M} (hC : JC p s m args meth c D vwCl (va_A (wr_d Y X cs ad g0) s.heap.size) 3 cX11_sync (some .int) wsX11_sync RX11 (jt_tys cs)) (x1 : Int32) (Post : Int32 → jm_M → Prop) (K32 : jm_M → Prop) (hK32 : ∀ (g : jm_M) , K32 g → JJ (wr_d Y X cs ad) p l e rm_X11_sync s m args below meth c D vwCl (va_A (wr_d Y X cs ad g0) s.heap.size) 3 0 0 (MQ below (jj_QI (wr_d Y X cs ad) D vwCl (jt_tys cs) g0 s.heap.size Post) args s 0 0 (va_A (wr_d Y X cs ad g0) s.heap.size)) 32 [(0, .ref (ad 0)), (1, .int x1)] [] g) : ∀ (f : Nat) (x2 : Int32) (g : jm_M), vr_sync_7 x1 K32 Post f x2 g → JJ (wr_d Y X cs ad) p l e rm_X11_sync s m args below meth c D vwCl (va_A (wr_d Y X cs ad g0) s.heap.size) 3 0 0 (MQ below (jj_QI (wr_d Y X cs ad) D vwCl (jt_tys cs) g0 s.heap.size Post) args s 0 0 (va_A (wr_d Y X cs ad g0) s.heap.size)) 7 [(0, .ref (ad 0)), (1, .int x1), (2, .int x2)] [] g := by
  intro f
  induction f with
  | zero => intro x2 g hV; exact hV.elim
  | succ f ih =>
    intro x2 g hV
    rw [vr_sync_7] at hV
    refine jj_iload_n (pc2 := 8) hC dX11_sync_7 rfl 2 rfl rfl ?_
    refine jj_sipush (pc2 := 11) hC 128 dX11_sync_8 (by decide) rfl ?_
    refine jj_icmp_ge (pc2 := 14) hC 32 dX11_sync_11 (by decide) rfl (fun h2 => ?_) (fun h2 => ?_)
    · have hV := hV.1 h2
      exact jj_sub (lv2 := [(0, .ref (ad 0)), (1, .int x1)]) [0, 1] rfl (hK32 g hV)
    · have hV := hV.2 h2
      refine jj_aload_n (pc2 := 15) hC dX11_sync_14 rfl 0 rfl rfl ?_
      refine rg_12 (pc2 := 18) hC hi_X11_sync_X11 lk_X11_sync_1 dX11_sync_15 rfl ?_
      refine jj_iload_n (pc2 := 19) hC dX11_sync_18 rfl 2 rfl rfl ?_
      refine jj_aload_n (pc2 := 20) hC dX11_sync_19 rfl 0 rfl rfl ?_
      refine rg_11 (pc2 := 23) hC hi_X11_sync_X11 lk_X11_sync_2 dX11_sync_20 rfl ?_
      refine jj_iload_n (pc2 := 24) hC dX11_sync_23 rfl 2 rfl rfl ?_
      refine ra_11 (pc2 := 25) hC hV.1 dX11_sync_24 rfl ?_
      have hV := hV.2
      refine rs_12 (pc2 := 26) hC hV.1 dX11_sync_25 rfl (fun g3 eg3 => ?_)
      have hV := hV.2 g3 eg3
      refine jj_iinc (pc2 := 29) hC (x2 + 1) [(2, .int (x2 + 1)), (0, .ref (ad 0)), (1, .int x1)] dX11_sync_26 2 rfl rfl (by decide) rfl rfl ?_
      refine jj_goto hC 7 dX11_sync_29 (by decide) ?_
      exact jj_sub (lv2 := [(0, .ref (ad 0)), (1, .int x1), (2, .int (x2 + 1))]) [1, 2, 0] rfl (ih (x2 + 1) g3 hV)
set_option maxHeartbeats 4000000 in
set_option maxRecDepth 100000 in
theorem ar_sync_34 {p : Program} {l : Launch} {e : Env} {s : State} {m : MethodId} {args : Array Value} {below : List Frame} {meth : Method} {c : Code} {D : va_G} {cs : Nat → ClassId} {Y X : va_W} {ad : Nat → Nat} {g0 : jm_M} (hC : JC p s m args meth c D vwCl (va_A (wr_d Y X cs ad g0) s.heap.size) 3 cX11_sync (some .int) wsX11_sync RX11 (jt_tys cs)) (x1 : Int32) (Post : Int32 → jm_M → Prop) (K55 : jm_M → Prop) (hK55 : ∀ (g : jm_M) , K55 g → JJ (wr_d Y X cs ad) p l e rm_X11_sync s m args below meth c D vwCl (va_A (wr_d Y X cs ad g0) s.heap.size) 3 0 0 (MQ below (jj_QI (wr_d Y X cs ad) D vwCl (jt_tys cs) g0 s.heap.size Post) args s 0 0 (va_A (wr_d Y X cs ad g0) s.heap.size)) 55 [(0, .ref (ad 0)), (1, .int x1)] [] g) : ∀ (f : Nat) (x2 : Int32) (g : jm_M), vr_sync_34 x1 K55 Post f x2 g → JJ (wr_d Y X cs ad) p l e rm_X11_sync s m args below meth c D vwCl (va_A (wr_d Y X cs ad g0) s.heap.size) 3 0 0 (MQ below (jj_QI (wr_d Y X cs ad) D vwCl (jt_tys cs) g0 s.heap.size Post) args s 0 0 (va_A (wr_d Y X cs ad g0) s.heap.size)) 34 [(0, .ref (ad 0)), (1, .int x1), (2, .int x2)] [] g := by
  intro f
  induction f with
  | zero => intro x2 g hV; exact hV.elim
  | succ f ih =>
    intro x2 g hV
    rw [vr_sync_34] at hV
    refine jj_iload_n (pc2 := 35) hC dX11_sync_34 rfl 2 rfl rfl ?_
    refine jj_aload_n (pc2 := 36) hC dX11_sync_35 rfl 0 rfl rfl ?_
    refine rg_40 (pc2 := 39) hC hi_X11_sync_X11 lk_X11_sync_3 dX11_sync_36 rfl ?_
    refine jj_icmp_ge (pc2 := 42) hC 55 dX11_sync_39 (by decide) rfl (fun h5 => ?_) (fun h5 => ?_)
    · have hV := hV.1 h5
      exact jj_sub (lv2 := [(0, .ref (ad 0)), (1, .int x1)]) [0, 1] rfl (hK55 g hV)
    · have hV := hV.2 h5
      refine jj_aload_n (pc2 := 43) hC dX11_sync_42 rfl 0 rfl rfl ?_
      refine rg_45 (pc2 := 46) hC hi_X11_sync_X11 lk_X11_sync_4 dX11_sync_43 rfl ?_
      refine jj_iload_n (pc2 := 47) hC dX11_sync_46 rfl 2 rfl rfl ?_
      refine jj_iconst (pc2 := 48) hC 0 dX11_sync_47 (by decide) rfl ?_
      refine rs_45 (pc2 := 49) hC hV.1 jj_nb0 dX11_sync_48 rfl (fun g6 eg6 => ?_)
      have hV := hV.2 g6 eg6
      refine jj_iinc (pc2 := 52) hC (x2 + 1) [(2, .int (x2 + 1)), (0, .ref (ad 0)), (1, .int x1)] dX11_sync_49 2 rfl rfl (by decide) rfl rfl ?_
      refine jj_goto hC 34 dX11_sync_52 (by decide) ?_
      exact jj_sub (lv2 := [(0, .ref (ad 0)), (1, .int x1), (2, .int (x2 + 1))]) [1, 2, 0] rfl (ih (x2 + 1) g6 hV)
set_option maxHeartbeats 4000000 in
set_option maxRecDepth 100000 in
theorem cr_sync (l : Launch) (D : va_G) (cs : Nat → ClassId) (Y X : va_W) (ad : Nat → Nat) (g0 : jm_M) (Post : Int32 → jm_M → Prop) (hV : vr_sync g0 Post) : JI (wr_d Y X cs ad) D vwCl (jt_tys cs) l yX11_sync wsX11_sync rm_X11_sync 0 0 [.ref (ad 0)] g0 Post := by
  refine jj_metI (cc := cX11_sync) (nL := 3) (ret := (some .int)) (by decide) rfl (Nat.le_of_ble_eq_true rfl) [(0, .ref (ad 0))] rfl ?_
  intro p e s m args below meth c hC hnm
  rw [vr_sync] at hV
  refine jj_aload_n (pc2 := 1) hC dX11_sync_0 rfl 0 rfl rfl ?_
  refine jj_cVIp (pc2 := 4) (wd := wr_d Y X cs ad) (g := g0) (rest := []) hC (Y.length + 0) (jx_at (V := wr_W cs ad g0) rfl) rfl rfl (cr_differ l D cs Y X ad  g0 _ hV) (cwV 0 hC.1.2.2.2.2 gX11_sync_X11_differ rfl rfl rfl (by decide +kernel) ⟨by decide, by decide⟩) rfl (Nat.le_of_ble_eq_true rfl) _ rfl dX11_sync_1 ⟨Nat.zero_le _, Nat.zero_le _⟩ rfl (fun r1 hV => ?_)
  refine jj_istore_n (pc2 := 5) hC [(1, .int r1), (0, .ref (ad 0))] dX11_sync_4 rfl (by decide) rfl rfl ?_
  refine jj_iconst (pc2 := 6) hC 0 dX11_sync_5 (by decide) rfl ?_
  refine jj_istore_n (pc2 := 7) hC [(2, .int 0), (1, .int r1), (0, .ref (ad 0))] dX11_sync_6 rfl (by decide) rfl rfl ?_
  obtain ⟨n11, hV⟩ := hV
  refine jj_sub (lv2 := [(0, .ref (ad 0)), (1, .int r1), (2, .int 0)]) [2, 1, 0] rfl (ar_sync_7 hC r1 Post _ (fun g4 hV => ?_) n11 0 g0 hV)
  refine jj_iconst (pc2 := 33) hC 0 dX11_sync_32 (by decide) rfl ?_
  refine jj_istore_n (pc2 := 34) hC [(2, .int 0), (0, .ref (ad 0)), (1, .int r1)] dX11_sync_33 rfl (by decide) rfl rfl ?_
  obtain ⟨n10, hV⟩ := hV
  refine jj_sub (lv2 := [(0, .ref (ad 0)), (1, .int r1), (2, .int 0)]) [1, 2, 0] rfl (ar_sync_34 hC r1 Post _ (fun g7 hV => ?_) n10 0 g4 hV)
  refine jj_aload_n (pc2 := 56) hC dX11_sync_55 rfl 0 rfl rfl ?_
  refine jj_iconst (pc2 := 57) hC 0 dX11_sync_56 (by decide) rfl ?_
  refine rp_57 (pc2 := 60) hC hi_X11_sync_X11 lk_X11_sync_5 dX11_sync_57 rfl (fun g8 eg8 => ?_)
  have hV := hV g8 eg8
  refine jj_aload_n (pc2 := 61) hC dX11_sync_60 rfl 0 rfl rfl ?_
  refine jj_iconst (pc2 := 62) hC 0 dX11_sync_61 (by decide) rfl ?_
  refine rp_58 (pc2 := 65) hC hi_X11_sync_X11 lk_X11_sync_6 jj_nb0 dX11_sync_62 rfl (fun g9 eg9 => ?_)
  have hV := hV g9 eg9
  refine jj_iload_n (pc2 := 66) hC dX11_sync_65 rfl 1 rfl rfl ?_
  exact jj_iret hC dX11_sync_66 hV
theorem hi_X11_keep_X11 : ∀ w ∈ u_ws RX11 TX11 63, w ∈ wsX11_keep := fun _ h => List.mem_cons_of_mem _ (List.mem_append_right _ h)
theorem lk_X11_keep_2 : Cond.fieldLink RX11 296 "PartedHouseModel" "at" "I" ∈ wsX11_keep := List.mem_of_getElem? (i := 2) rfl
theorem lk_X11_keep_1 : Cond.fieldLink RX11 141 "PartedHouseModel" "image" "[I" ∈ wsX11_keep := List.mem_of_getElem? (i := 1) rfl
abbrev rm_X11_keep : Room := { frames := 0, cells := 0, slots := 0, locals := 0 }
def vr_keep (a1 : Int32) (g0 : jm_M) (Post : jm_M → Prop) : Prop := (vp_in (g0 62 0) 53600) ∧ (∀ g1 : jm_M, g1 = jm_a g0 61 (g0 62 0) a1 → (∀ g2 : jm_M, g2 = jm_s g1 62 ((g1 62 0) + 1) → (Post g2)))
set_option maxHeartbeats 4000000 in
set_option maxRecDepth 100000 in
theorem cr_keep (l : Launch) (D : va_G) (cs : Nat → ClassId) (Y X : va_W) (ad : Nat → Nat) (a1 : Int32) (g0 : jm_M) (Post : jm_M → Prop) (hV : vr_keep a1 g0 Post) : JV (wr_d Y X cs ad) D vwCl (jt_tys cs) l yX11_keep wsX11_keep rm_X11_keep 0 0 [.ref (ad 0), .int a1] g0 Post := by
  refine jj_metV (cc := cX11_keep) (nL := 2) (ret := none) (by decide) rfl (Nat.le_of_ble_eq_true rfl) [(0, .ref (ad 0)), (1, .int a1)] rfl ?_
  intro p e s m args below meth c hC hnm
  rw [vr_keep] at hV
  refine jj_aload_n (pc2 := 1) hC dX11_keep_0 rfl 0 rfl rfl ?_
  refine rg_61 (pc2 := 4) hC hi_X11_keep_X11 lk_X11_keep_1 dX11_keep_1 rfl ?_
  refine jj_aload_n (pc2 := 5) hC dX11_keep_4 rfl 0 rfl rfl ?_
  refine rg_62 (pc2 := 8) hC hi_X11_keep_X11 lk_X11_keep_2 dX11_keep_5 rfl ?_
  refine jj_iload_n (pc2 := 9) hC dX11_keep_8 rfl 1 rfl rfl ?_
  refine rs_61 (pc2 := 10) hC hV.1 dX11_keep_9 rfl (fun g1 eg1 => ?_)
  have hV := hV.2 g1 eg1
  refine jj_aload_n (pc2 := 11) hC dX11_keep_10 rfl 0 rfl rfl ?_
  refine jj_dup (pc2 := 12) hC dX11_keep_11 rfl rfl ?_
  refine rg_62 (pc2 := 15) hC hi_X11_keep_X11 lk_X11_keep_2 dX11_keep_12 rfl ?_
  refine jj_iconst (pc2 := 16) hC 1 dX11_keep_15 (by decide) rfl ?_
  refine jj_iadd (pc2 := 17) hC dX11_keep_16 rfl ?_
  refine rp_62 (pc2 := 20) hC hi_X11_keep_X11 lk_X11_keep_2 dX11_keep_17 rfl (fun g2 eg2 => ?_)
  have hV := hV g2 eg2
  exact jj_vret hC dX11_keep_20 hV
theorem hi_X11_taken_X11 : ∀ w ∈ u_ws RX11 TX11 63, w ∈ wsX11_taken := fun _ h => List.mem_cons_of_mem _ (List.mem_append_right _ h)
theorem lk_X11_taken_1 : Cond.fieldLink RX11 296 "PartedHouseModel" "at" "I" ∈ wsX11_taken := List.mem_of_getElem? (i := 1) rfl
theorem lk_X11_taken_2 : Cond.fieldLink RX11 141 "PartedHouseModel" "image" "[I" ∈ wsX11_taken := List.mem_of_getElem? (i := 2) rfl
abbrev rm_X11_taken : Room := { frames := 0, cells := 0, slots := 0, locals := 0 }
def vr_taken (g0 : jm_M) (Post : Int32 → jm_M → Prop) : Prop := ∀ g1 : jm_M, g1 = jm_s g0 62 ((g0 62 0) + 1) → ((vp_in ((g1 62 0) - 1) 53600) ∧ (Post (g1 61 ((g1 62 0) - 1).toNatClampNeg) g1))
set_option maxHeartbeats 4000000 in
set_option maxRecDepth 100000 in
theorem cr_taken (l : Launch) (D : va_G) (cs : Nat → ClassId) (Y X : va_W) (ad : Nat → Nat) (g0 : jm_M) (Post : Int32 → jm_M → Prop) (hV : vr_taken g0 Post) : JI (wr_d Y X cs ad) D vwCl (jt_tys cs) l yX11_taken wsX11_taken rm_X11_taken 0 0 [.ref (ad 0)] g0 Post := by
  refine jj_metI (cc := cX11_taken) (nL := 1) (ret := (some .int)) (by decide) rfl (Nat.le_of_ble_eq_true rfl) [(0, .ref (ad 0))] rfl ?_
  intro p e s m args below meth c hC hnm
  rw [vr_taken] at hV
  refine jj_aload_n (pc2 := 1) hC dX11_taken_0 rfl 0 rfl rfl ?_
  refine jj_dup (pc2 := 2) hC dX11_taken_1 rfl rfl ?_
  refine rg_62 (pc2 := 5) hC hi_X11_taken_X11 lk_X11_taken_1 dX11_taken_2 rfl ?_
  refine jj_iconst (pc2 := 6) hC 1 dX11_taken_5 (by decide) rfl ?_
  refine jj_iadd (pc2 := 7) hC dX11_taken_6 rfl ?_
  refine rp_62 (pc2 := 10) hC hi_X11_taken_X11 lk_X11_taken_1 dX11_taken_7 rfl (fun g1 eg1 => ?_)
  have hV := hV g1 eg1
  refine jj_aload_n (pc2 := 11) hC dX11_taken_10 rfl 0 rfl rfl ?_
  refine rg_61 (pc2 := 14) hC hi_X11_taken_X11 lk_X11_taken_2 dX11_taken_11 rfl ?_
  refine jj_aload_n (pc2 := 15) hC dX11_taken_14 rfl 0 rfl rfl ?_
  refine rg_62 (pc2 := 18) hC hi_X11_taken_X11 lk_X11_taken_1 dX11_taken_15 rfl ?_
  refine jj_iconst (pc2 := 19) hC 1 dX11_taken_18 (by decide) rfl ?_
  refine jj_isub (pc2 := 20) hC dX11_taken_19 rfl ?_
  refine ra_61 (pc2 := 21) hC hV.1 dX11_taken_20 rfl ?_
  have hV := hV.2
  exact jj_iret hC dX11_taken_21 hV
theorem hi_X11_image_X11 : ∀ w ∈ u_ws RX11 TX11 63, w ∈ wsX11_image := fun _ h => List.mem_cons_of_mem _ (List.mem_append_right _ h)
theorem lk_X11_image_5 : Cond.fieldLink RX11 31 "PartedHouseModel" "old" "[I" ∈ wsX11_image := List.mem_of_getElem? (i := 5) rfl
theorem lk_X11_image_6 : Cond.fieldLink RX11 34 "PartedHouseModel" "fresh" "[I" ∈ wsX11_image := List.mem_of_getElem? (i := 6) rfl
theorem lk_X11_image_7 : Cond.fieldLink RX11 62 "PartedHouseModel" "calls" "[I" ∈ wsX11_image := List.mem_of_getElem? (i := 7) rfl
theorem lk_X11_image_8 : Cond.fieldLink RX11 65 "PartedHouseModel" "reads" "[I" ∈ wsX11_image := List.mem_of_getElem? (i := 8) rfl
theorem lk_X11_image_9 : Cond.fieldLink RX11 68 "PartedHouseModel" "writes" "[I" ∈ wsX11_image := List.mem_of_getElem? (i := 9) rfl
theorem lk_X11_image_10 : Cond.fieldLink RX11 71 "PartedHouseModel" "sets" "[I" ∈ wsX11_image := List.mem_of_getElem? (i := 10) rfl
theorem lk_X11_image_11 : Cond.fieldLink RX11 74 "PartedHouseModel" "room" "[I" ∈ wsX11_image := List.mem_of_getElem? (i := 11) rfl
theorem lk_X11_image_12 : Cond.fieldLink RX11 134 "PartedHouseModel" "unlike" "[I" ∈ wsX11_image := List.mem_of_getElem? (i := 12) rfl
theorem lk_X11_image_22 : Cond.fieldLink RX11 110 "PartedHouseModel" "waits" "[Z" ∈ wsX11_image := List.mem_of_getElem? (i := 22) rfl
theorem lk_X11_image_21 : Cond.fieldLink RX11 107 "PartedHouseModel" "letterTo" "[I" ∈ wsX11_image := List.mem_of_getElem? (i := 21) rfl
theorem lk_X11_image_20 : Cond.fieldLink RX11 104 "PartedHouseModel" "letterFrom" "[I" ∈ wsX11_image := List.mem_of_getElem? (i := 20) rfl
theorem lk_X11_image_19 : Cond.fieldLink RX11 101 "PartedHouseModel" "letterSays" "[I" ∈ wsX11_image := List.mem_of_getElem? (i := 19) rfl
theorem lk_X11_image_18 : Cond.fieldLink RX11 98 "PartedHouseModel" "letterCell" "[I" ∈ wsX11_image := List.mem_of_getElem? (i := 18) rfl
theorem lk_X11_image_17 : Cond.fieldLink RX11 242 "PartedHouseModel" "sent" "I" ∈ wsX11_image := List.mem_of_getElem? (i := 17) rfl
theorem lk_X11_image_16 : Cond.fieldLink RX11 245 "PartedHouseModel" "actsNew" "I" ∈ wsX11_image := List.mem_of_getElem? (i := 16) rfl
theorem lk_X11_image_15 : Cond.fieldLink RX11 193 "PartedHouseModel" "actsOld" "I" ∈ wsX11_image := List.mem_of_getElem? (i := 15) rfl
theorem lk_X11_image_14 : Cond.fieldLink RX11 287 "PartedHouseModel" "besides" "I" ∈ wsX11_image := List.mem_of_getElem? (i := 14) rfl
theorem lk_X11_image_13 : Cond.fieldLink RX11 290 "PartedHouseModel" "isUnlike" "Z" ∈ wsX11_image := List.mem_of_getElem? (i := 13) rfl
theorem lk_X11_image_4 : Cond.fieldLink RX11 155 "PartedHouseModel" "tables" "I" ∈ wsX11_image := List.mem_of_getElem? (i := 4) rfl
theorem lk_X11_image_3 : Cond.fieldLink RX11 148 "PartedHouseModel" "modules" "I" ∈ wsX11_image := List.mem_of_getElem? (i := 3) rfl
theorem lk_X11_image_2 : Cond.fieldLink RX11 137 "PartedHouseModel" "hasImage" "[Z" ∈ wsX11_image := List.mem_of_getElem? (i := 2) rfl
theorem lk_X11_image_1 : Cond.fieldLink RX11 296 "PartedHouseModel" "at" "I" ∈ wsX11_image := List.mem_of_getElem? (i := 1) rfl
abbrev rm_X11_image : Room := { frames := 1, cells := 0, slots := 0, locals := 22 }
def vr_image_45 (K68 : jm_M → Prop) (Post : Int32 → jm_M → Prop) : Nat → Int32 → jm_M → Prop
  | 0, _, _ => False
  | f + 1, x2, g => ((128 ≤ x2) → (K68 g)) ∧ ((¬ 128 ≤ x2) → ((vp_in x2 128) ∧ (vr_keep (g 11 x2.toNatClampNeg) g (fun (g11 : jm_M) => vr_image_45 K68 Post f (x2 + 1) g11))))
def vr_image_70 (K93 : jm_M → Prop) (Post : Int32 → jm_M → Prop) : Nat → Int32 → jm_M → Prop
  | 0, _, _ => False
  | f + 1, x2, g => ((128 ≤ x2) → (K93 g)) ∧ ((¬ 128 ≤ x2) → ((vp_in x2 128) ∧ (vr_keep (g 12 x2.toNatClampNeg) g (fun (g15 : jm_M) => vr_image_70 K93 Post f (x2 + 1) g15))))
def vr_image_95 (K117 : jm_M → Prop) (Post : Int32 → jm_M → Prop) : Nat → Int32 → jm_M → Prop
  | 0, _, _ => False
  | f + 1, x2, g => ((100 ≤ x2) → (K117 g)) ∧ ((¬ 100 ≤ x2) → ((vp_in x2 100) ∧ (vr_keep (g 24 x2.toNatClampNeg) g (fun (g19 : jm_M) => vr_image_95 K117 Post f (x2 + 1) g19))))
def vr_image_119 (K142 : jm_M → Prop) (Post : Int32 → jm_M → Prop) : Nat → Int32 → jm_M → Prop
  | 0, _, _ => False
  | f + 1, x2, g => ((160 ≤ x2) → (K142 g)) ∧ ((¬ 160 ≤ x2) → ((vp_in x2 160) ∧ (vr_keep (g 25 x2.toNatClampNeg) g (fun (g23 : jm_M) => vr_image_119 K142 Post f (x2 + 1) g23))))
def vr_image_144 (K167 : jm_M → Prop) (Post : Int32 → jm_M → Prop) : Nat → Int32 → jm_M → Prop
  | 0, _, _ => False
  | f + 1, x2, g => ((160 ≤ x2) → (K167 g)) ∧ ((¬ 160 ≤ x2) → ((vp_in x2 160) ∧ (vr_keep (g 26 x2.toNatClampNeg) g (fun (g27 : jm_M) => vr_image_144 K167 Post f (x2 + 1) g27))))
def vr_image_169 (K192 : jm_M → Prop) (Post : Int32 → jm_M → Prop) : Nat → Int32 → jm_M → Prop
  | 0, _, _ => False
  | f + 1, x2, g => ((1024 ≤ x2) → (K192 g)) ∧ ((¬ 1024 ≤ x2) → ((vp_in x2 1024) ∧ (vr_keep (g 27 x2.toNatClampNeg) g (fun (g31 : jm_M) => vr_image_169 K192 Post f (x2 + 1) g31))))
def vr_image_194 (K216 : jm_M → Prop) (Post : Int32 → jm_M → Prop) : Nat → Int32 → jm_M → Prop
  | 0, _, _ => False
  | f + 1, x2, g => ((10 ≤ x2) → (K216 g)) ∧ ((¬ 10 ≤ x2) → ((vp_in x2 10) ∧ (vr_keep (g 30 x2.toNatClampNeg) g (fun (g35 : jm_M) => vr_image_194 K216 Post f (x2 + 1) g35))))
def vr_image_218 (K239 : jm_M → Prop) (Post : Int32 → jm_M → Prop) : Nat → Int32 → jm_M → Prop
  | 0, _, _ => False
  | f + 1, x2, g => ((5 ≤ x2) → (K239 g)) ∧ ((¬ 5 ≤ x2) → ((vp_in x2 5) ∧ (vr_keep (g 59 x2.toNatClampNeg) g (fun (g39 : jm_M) => vr_image_218 K239 Post f (x2 + 1) g39))))
def vr_image_289 (Post : Int32 → jm_M → Prop) : Nat → Int32 → jm_M → Prop
  | 0, _, _ => False
  | f + 1, x2, g => (((g 40 0) ≤ x2) → (Post 1 g)) ∧ ((¬ (g 40 0) ≤ x2) → ((vp_in x2 2000) ∧ (vr_keep (g 41 x2.toNatClampNeg) g (fun (g54 : jm_M) => (vp_in x2 2000) ∧ (vr_keep (g54 42 x2.toNatClampNeg) g54 (fun (g56 : jm_M) => (vp_in x2 2000) ∧ (vr_keep (g56 43 x2.toNatClampNeg) g56 (fun (g58 : jm_M) => (vp_in x2 2000) ∧ (vr_keep (g58 44 x2.toNatClampNeg) g58 (fun (g60 : jm_M) => (vp_in x2 2000) ∧ ((((g60 45 x2.toNatClampNeg) = 0) → (vr_keep 0 g60 (fun (g63 : jm_M) => vr_image_289 Post f (x2 + 1) g63))) ∧ ((¬ (g60 45 x2.toNatClampNeg) = 0) → (vr_keep 1 g60 (fun (g65 : jm_M) => vr_image_289 Post f (x2 + 1) g65))))))))))))))
def vr_image (a1 : Int32) (g0 : jm_M) (Post : Int32 → jm_M → Prop) : Prop := vr_in a1 0 3 g0 (fun (r1 : Int32) => ((¬ r1 = 0) → (∀ g3 : jm_M, g3 = jm_s g0 62 ((13400 : Int32) * a1) → ((vp_in a1 4) ∧ (∀ g4 : jm_M, g4 = jm_a g3 60 a1 1 → (vr_keep (g4 1 0) g4 (fun (g6 : jm_M) => vr_keep (g6 3 0) g6 (fun (g8 : jm_M) => ∃ n85 : Nat, vr_image_45 (fun (g12 : jm_M) => ∃ n84 : Nat, vr_image_70 (fun (g16 : jm_M) => ∃ n83 : Nat, vr_image_95 (fun (g20 : jm_M) => ∃ n82 : Nat, vr_image_119 (fun (g24 : jm_M) => ∃ n81 : Nat, vr_image_144 (fun (g28 : jm_M) => ∃ n80 : Nat, vr_image_169 (fun (g32 : jm_M) => ∃ n79 : Nat, vr_image_194 (fun (g36 : jm_M) => ∃ n78 : Nat, vr_image_218 (fun (g40 : jm_M) => (((g40 58 0) = 0) → (vr_keep 0 g40 (fun (g43 : jm_M) => vr_keep (g43 57 0) g43 (fun (g45 : jm_M) => vr_keep (g45 28 0) g45 (fun (g47 : jm_M) => vr_keep (g47 29 0) g47 (fun (g49 : jm_M) => vr_keep (g49 40 0) g49 (fun (g51 : jm_M) => ∃ n66 : Nat, vr_image_289 Post n66 0 g51))))))) ∧ ((¬ (g40 58 0) = 0) → (vr_keep 1 g40 (fun (g68 : jm_M) => vr_keep (g68 57 0) g68 (fun (g70 : jm_M) => vr_keep (g70 28 0) g70 (fun (g72 : jm_M) => vr_keep (g72 29 0) g72 (fun (g74 : jm_M) => vr_keep (g74 40 0) g74 (fun (g76 : jm_M) => ∃ n77 : Nat, vr_image_289 Post n77 0 g76)))))))) Post n78 0 g36) Post n79 0 g32) Post n80 0 g28) Post n81 0 g24) Post n82 0 g20) Post n83 0 g16) Post n84 0 g12) Post n85 0 g8))))))) ∧ ((r1 = 0) → (Post (-1) g0)))
set_option maxHeartbeats 4000000 in
set_option maxRecDepth 100000 in
theorem ar_image_45 {p : Program} {l : Launch} {e : Env} {s : State} {m : MethodId} {args : Array Value} {below : List Frame} {meth : Method} {c : Code} {D : va_G} {cs : Nat → ClassId} {Y X : va_W} {ad : Nat → Nat} {g0 : jm_M} (hC : JC p s m args meth c D vwCl (va_A (wr_d Y X cs ad g0) s.heap.size) 3 cX11_image (some .int) wsX11_image RX11 (jt_tys cs)) (Post : Int32 → jm_M → Prop) (K68 : jm_M → Prop) (hK68 : ∀ (g : jm_M) , K68 g → JJ (wr_d Y X cs ad) p l e rm_X11_image s m args below meth c D vwCl (va_A (wr_d Y X cs ad g0) s.heap.size) 3 0 0 (MQ below (jj_QI (wr_d Y X cs ad) D vwCl (jt_tys cs) g0 s.heap.size Post) args s 0 0 (va_A (wr_d Y X cs ad g0) s.heap.size)) 68 [(0, .ref (ad 0))] [] g) : ∀ (f : Nat) (x2 : Int32) (g : jm_M), vr_image_45 K68 Post f x2 g → JJ (wr_d Y X cs ad) p l e rm_X11_image s m args below meth c D vwCl (va_A (wr_d Y X cs ad g0) s.heap.size) 3 0 0 (MQ below (jj_QI (wr_d Y X cs ad) D vwCl (jt_tys cs) g0 s.heap.size Post) args s 0 0 (va_A (wr_d Y X cs ad g0) s.heap.size)) 45 [(0, .ref (ad 0)), (2, .int x2)] [] g := by
  intro f
  induction f with
  | zero => intro x2 g hV; exact hV.elim
  | succ f ih =>
    intro x2 g hV
    rw [vr_image_45] at hV
    refine jj_iload_n (pc2 := 46) hC dX11_image_45 rfl 1 rfl rfl ?_
    refine jj_sipush (pc2 := 49) hC 128 dX11_image_46 (by decide) rfl ?_
    refine jj_icmp_ge (pc2 := 52) hC 68 dX11_image_49 (by decide) rfl (fun h9 => ?_) (fun h9 => ?_)
    · have hV := hV.1 h9
      exact jj_sub (lv2 := [(0, .ref (ad 0))]) [0] rfl (hK68 g hV)
    · have hV := hV.2 h9
      refine jj_aload_n (pc2 := 53) hC dX11_image_52 rfl 0 rfl rfl ?_
      refine jj_aload_n (pc2 := 54) hC dX11_image_53 rfl 0 rfl rfl ?_
      refine rg_11 (pc2 := 57) hC hi_X11_image_X11 lk_X11_image_5 dX11_image_54 rfl ?_
      refine jj_iload_n (pc2 := 58) hC dX11_image_57 rfl 1 rfl rfl ?_
      refine ra_11 (pc2 := 59) hC hV.1 dX11_image_58 rfl ?_
      have hV := hV.2
      refine jj_cVV (pc2 := 62) (wd := wr_d Y X cs ad) (g := g) (rest := []) hC (Y.length + 0) (jx_at (V := wr_W cs ad g) rfl) rfl rfl (cr_keep l D cs Y X ad (g 11 x2.toNatClampNeg) g _ hV) (cwV 1 hC.1.2.2.2.2 gX11_image_X11_keep rfl rfl rfl (by decide +kernel) ⟨by decide, by decide⟩) rfl (Nat.le_of_ble_eq_true rfl) _ rfl dX11_image_59 ⟨Nat.zero_le _, Nat.zero_le _⟩ rfl (fun g11 hV => ?_)
      refine jj_iinc (pc2 := 65) hC (x2 + 1) [(2, .int (x2 + 1)), (0, .ref (ad 0))] dX11_image_62 1 rfl rfl (by decide) rfl rfl ?_
      refine jj_goto hC 45 dX11_image_65 (by decide) ?_
      exact jj_sub (lv2 := [(0, .ref (ad 0)), (2, .int (x2 + 1))]) [1, 0] rfl (ih (x2 + 1) g11 hV)
set_option maxHeartbeats 4000000 in
set_option maxRecDepth 100000 in
theorem ar_image_70 {p : Program} {l : Launch} {e : Env} {s : State} {m : MethodId} {args : Array Value} {below : List Frame} {meth : Method} {c : Code} {D : va_G} {cs : Nat → ClassId} {Y X : va_W} {ad : Nat → Nat} {g0 : jm_M} (hC : JC p s m args meth c D vwCl (va_A (wr_d Y X cs ad g0) s.heap.size) 3 cX11_image (some .int) wsX11_image RX11 (jt_tys cs)) (Post : Int32 → jm_M → Prop) (K93 : jm_M → Prop) (hK93 : ∀ (g : jm_M) , K93 g → JJ (wr_d Y X cs ad) p l e rm_X11_image s m args below meth c D vwCl (va_A (wr_d Y X cs ad g0) s.heap.size) 3 0 0 (MQ below (jj_QI (wr_d Y X cs ad) D vwCl (jt_tys cs) g0 s.heap.size Post) args s 0 0 (va_A (wr_d Y X cs ad g0) s.heap.size)) 93 [(0, .ref (ad 0))] [] g) : ∀ (f : Nat) (x2 : Int32) (g : jm_M), vr_image_70 K93 Post f x2 g → JJ (wr_d Y X cs ad) p l e rm_X11_image s m args below meth c D vwCl (va_A (wr_d Y X cs ad g0) s.heap.size) 3 0 0 (MQ below (jj_QI (wr_d Y X cs ad) D vwCl (jt_tys cs) g0 s.heap.size Post) args s 0 0 (va_A (wr_d Y X cs ad g0) s.heap.size)) 70 [(0, .ref (ad 0)), (2, .int x2)] [] g := by
  intro f
  induction f with
  | zero => intro x2 g hV; exact hV.elim
  | succ f ih =>
    intro x2 g hV
    rw [vr_image_70] at hV
    refine jj_iload_n (pc2 := 71) hC dX11_image_70 rfl 1 rfl rfl ?_
    refine jj_sipush (pc2 := 74) hC 128 dX11_image_71 (by decide) rfl ?_
    refine jj_icmp_ge (pc2 := 77) hC 93 dX11_image_74 (by decide) rfl (fun h13 => ?_) (fun h13 => ?_)
    · have hV := hV.1 h13
      exact jj_sub (lv2 := [(0, .ref (ad 0))]) [0] rfl (hK93 g hV)
    · have hV := hV.2 h13
      refine jj_aload_n (pc2 := 78) hC dX11_image_77 rfl 0 rfl rfl ?_
      refine jj_aload_n (pc2 := 79) hC dX11_image_78 rfl 0 rfl rfl ?_
      refine rg_12 (pc2 := 82) hC hi_X11_image_X11 lk_X11_image_6 dX11_image_79 rfl ?_
      refine jj_iload_n (pc2 := 83) hC dX11_image_82 rfl 1 rfl rfl ?_
      refine ra_12 (pc2 := 84) hC hV.1 dX11_image_83 rfl ?_
      have hV := hV.2
      refine jj_cVV (pc2 := 87) (wd := wr_d Y X cs ad) (g := g) (rest := []) hC (Y.length + 0) (jx_at (V := wr_W cs ad g) rfl) rfl rfl (cr_keep l D cs Y X ad (g 12 x2.toNatClampNeg) g _ hV) (cwV 1 hC.1.2.2.2.2 gX11_image_X11_keep rfl rfl rfl (by decide +kernel) ⟨by decide, by decide⟩) rfl (Nat.le_of_ble_eq_true rfl) _ rfl dX11_image_84 ⟨Nat.zero_le _, Nat.zero_le _⟩ rfl (fun g15 hV => ?_)
      refine jj_iinc (pc2 := 90) hC (x2 + 1) [(2, .int (x2 + 1)), (0, .ref (ad 0))] dX11_image_87 1 rfl rfl (by decide) rfl rfl ?_
      refine jj_goto hC 70 dX11_image_90 (by decide) ?_
      exact jj_sub (lv2 := [(0, .ref (ad 0)), (2, .int (x2 + 1))]) [1, 0] rfl (ih (x2 + 1) g15 hV)
set_option maxHeartbeats 4000000 in
set_option maxRecDepth 100000 in
theorem ar_image_95 {p : Program} {l : Launch} {e : Env} {s : State} {m : MethodId} {args : Array Value} {below : List Frame} {meth : Method} {c : Code} {D : va_G} {cs : Nat → ClassId} {Y X : va_W} {ad : Nat → Nat} {g0 : jm_M} (hC : JC p s m args meth c D vwCl (va_A (wr_d Y X cs ad g0) s.heap.size) 3 cX11_image (some .int) wsX11_image RX11 (jt_tys cs)) (Post : Int32 → jm_M → Prop) (K117 : jm_M → Prop) (hK117 : ∀ (g : jm_M) , K117 g → JJ (wr_d Y X cs ad) p l e rm_X11_image s m args below meth c D vwCl (va_A (wr_d Y X cs ad g0) s.heap.size) 3 0 0 (MQ below (jj_QI (wr_d Y X cs ad) D vwCl (jt_tys cs) g0 s.heap.size Post) args s 0 0 (va_A (wr_d Y X cs ad g0) s.heap.size)) 117 [(0, .ref (ad 0))] [] g) : ∀ (f : Nat) (x2 : Int32) (g : jm_M), vr_image_95 K117 Post f x2 g → JJ (wr_d Y X cs ad) p l e rm_X11_image s m args below meth c D vwCl (va_A (wr_d Y X cs ad g0) s.heap.size) 3 0 0 (MQ below (jj_QI (wr_d Y X cs ad) D vwCl (jt_tys cs) g0 s.heap.size Post) args s 0 0 (va_A (wr_d Y X cs ad g0) s.heap.size)) 95 [(0, .ref (ad 0)), (2, .int x2)] [] g := by
  intro f
  induction f with
  | zero => intro x2 g hV; exact hV.elim
  | succ f ih =>
    intro x2 g hV
    rw [vr_image_95] at hV
    refine jj_iload_n (pc2 := 96) hC dX11_image_95 rfl 1 rfl rfl ?_
    refine jj_bipush (pc2 := 98) hC 100 dX11_image_96 (by decide) rfl ?_
    refine jj_icmp_ge (pc2 := 101) hC 117 dX11_image_98 (by decide) rfl (fun h17 => ?_) (fun h17 => ?_)
    · have hV := hV.1 h17
      exact jj_sub (lv2 := [(0, .ref (ad 0))]) [0] rfl (hK117 g hV)
    · have hV := hV.2 h17
      refine jj_aload_n (pc2 := 102) hC dX11_image_101 rfl 0 rfl rfl ?_
      refine jj_aload_n (pc2 := 103) hC dX11_image_102 rfl 0 rfl rfl ?_
      refine rg_24 (pc2 := 106) hC hi_X11_image_X11 lk_X11_image_7 dX11_image_103 rfl ?_
      refine jj_iload_n (pc2 := 107) hC dX11_image_106 rfl 1 rfl rfl ?_
      refine ra_24 (pc2 := 108) hC hV.1 dX11_image_107 rfl ?_
      have hV := hV.2
      refine jj_cVV (pc2 := 111) (wd := wr_d Y X cs ad) (g := g) (rest := []) hC (Y.length + 0) (jx_at (V := wr_W cs ad g) rfl) rfl rfl (cr_keep l D cs Y X ad (g 24 x2.toNatClampNeg) g _ hV) (cwV 1 hC.1.2.2.2.2 gX11_image_X11_keep rfl rfl rfl (by decide +kernel) ⟨by decide, by decide⟩) rfl (Nat.le_of_ble_eq_true rfl) _ rfl dX11_image_108 ⟨Nat.zero_le _, Nat.zero_le _⟩ rfl (fun g19 hV => ?_)
      refine jj_iinc (pc2 := 114) hC (x2 + 1) [(2, .int (x2 + 1)), (0, .ref (ad 0))] dX11_image_111 1 rfl rfl (by decide) rfl rfl ?_
      refine jj_goto hC 95 dX11_image_114 (by decide) ?_
      exact jj_sub (lv2 := [(0, .ref (ad 0)), (2, .int (x2 + 1))]) [1, 0] rfl (ih (x2 + 1) g19 hV)
set_option maxHeartbeats 4000000 in
set_option maxRecDepth 100000 in
theorem ar_image_119 {p : Program} {l : Launch} {e : Env} {s : State} {m : MethodId} {args : Array Value} {below : List Frame} {meth : Method} {c : Code} {D : va_G} {cs : Nat → ClassId} {Y X : va_W} {ad : Nat → Nat} {g0 : jm_M} (hC : JC p s m args meth c D vwCl (va_A (wr_d Y X cs ad g0) s.heap.size) 3 cX11_image (some .int) wsX11_image RX11 (jt_tys cs)) (Post : Int32 → jm_M → Prop) (K142 : jm_M → Prop) (hK142 : ∀ (g : jm_M) , K142 g → JJ (wr_d Y X cs ad) p l e rm_X11_image s m args below meth c D vwCl (va_A (wr_d Y X cs ad g0) s.heap.size) 3 0 0 (MQ below (jj_QI (wr_d Y X cs ad) D vwCl (jt_tys cs) g0 s.heap.size Post) args s 0 0 (va_A (wr_d Y X cs ad g0) s.heap.size)) 142 [(0, .ref (ad 0))] [] g) : ∀ (f : Nat) (x2 : Int32) (g : jm_M), vr_image_119 K142 Post f x2 g → JJ (wr_d Y X cs ad) p l e rm_X11_image s m args below meth c D vwCl (va_A (wr_d Y X cs ad g0) s.heap.size) 3 0 0 (MQ below (jj_QI (wr_d Y X cs ad) D vwCl (jt_tys cs) g0 s.heap.size Post) args s 0 0 (va_A (wr_d Y X cs ad g0) s.heap.size)) 119 [(0, .ref (ad 0)), (2, .int x2)] [] g := by
  intro f
  induction f with
  | zero => intro x2 g hV; exact hV.elim
  | succ f ih =>
    intro x2 g hV
    rw [vr_image_119] at hV
    refine jj_iload_n (pc2 := 120) hC dX11_image_119 rfl 1 rfl rfl ?_
    refine jj_sipush (pc2 := 123) hC 160 dX11_image_120 (by decide) rfl ?_
    refine jj_icmp_ge (pc2 := 126) hC 142 dX11_image_123 (by decide) rfl (fun h21 => ?_) (fun h21 => ?_)
    · have hV := hV.1 h21
      exact jj_sub (lv2 := [(0, .ref (ad 0))]) [0] rfl (hK142 g hV)
    · have hV := hV.2 h21
      refine jj_aload_n (pc2 := 127) hC dX11_image_126 rfl 0 rfl rfl ?_
      refine jj_aload_n (pc2 := 128) hC dX11_image_127 rfl 0 rfl rfl ?_
      refine rg_25 (pc2 := 131) hC hi_X11_image_X11 lk_X11_image_8 dX11_image_128 rfl ?_
      refine jj_iload_n (pc2 := 132) hC dX11_image_131 rfl 1 rfl rfl ?_
      refine ra_25 (pc2 := 133) hC hV.1 dX11_image_132 rfl ?_
      have hV := hV.2
      refine jj_cVV (pc2 := 136) (wd := wr_d Y X cs ad) (g := g) (rest := []) hC (Y.length + 0) (jx_at (V := wr_W cs ad g) rfl) rfl rfl (cr_keep l D cs Y X ad (g 25 x2.toNatClampNeg) g _ hV) (cwV 1 hC.1.2.2.2.2 gX11_image_X11_keep rfl rfl rfl (by decide +kernel) ⟨by decide, by decide⟩) rfl (Nat.le_of_ble_eq_true rfl) _ rfl dX11_image_133 ⟨Nat.zero_le _, Nat.zero_le _⟩ rfl (fun g23 hV => ?_)
      refine jj_iinc (pc2 := 139) hC (x2 + 1) [(2, .int (x2 + 1)), (0, .ref (ad 0))] dX11_image_136 1 rfl rfl (by decide) rfl rfl ?_
      refine jj_goto hC 119 dX11_image_139 (by decide) ?_
      exact jj_sub (lv2 := [(0, .ref (ad 0)), (2, .int (x2 + 1))]) [1, 0] rfl (ih (x2 + 1) g23 hV)
set_option maxHeartbeats 4000000 in
set_option maxRecDepth 100000 in
theorem ar_image_144 {p : Program} {l : Launch} {e : Env} {s : State} {m : MethodId} {args : Array Value} {below : List Frame} {meth : Method} {c : Code} {D : va_G} {cs : Nat → ClassId} {Y X : va_W} {ad : Nat → Nat} {g0 : jm_M} (hC : JC p s m args meth c D vwCl (va_A (wr_d Y X cs ad g0) s.heap.size) 3 cX11_image (some .int) wsX11_image RX11 (jt_tys cs)) (Post : Int32 → jm_M → Prop) (K167 : jm_M → Prop) (hK167 : ∀ (g : jm_M) , K167 g → JJ (wr_d Y X cs ad) p l e rm_X11_image s m args below meth c D vwCl (va_A (wr_d Y X cs ad g0) s.heap.size) 3 0 0 (MQ below (jj_QI (wr_d Y X cs ad) D vwCl (jt_tys cs) g0 s.heap.size Post) args s 0 0 (va_A (wr_d Y X cs ad g0) s.heap.size)) 167 [(0, .ref (ad 0))] [] g) : ∀ (f : Nat) (x2 : Int32) (g : jm_M), vr_image_144 K167 Post f x2 g → JJ (wr_d Y X cs ad) p l e rm_X11_image s m args below meth c D vwCl (va_A (wr_d Y X cs ad g0) s.heap.size) 3 0 0 (MQ below (jj_QI (wr_d Y X cs ad) D vwCl (jt_tys cs) g0 s.heap.size Post) args s 0 0 (va_A (wr_d Y X cs ad g0) s.heap.size)) 144 [(0, .ref (ad 0)), (2, .int x2)] [] g := by
  intro f
  induction f with
  | zero => intro x2 g hV; exact hV.elim
  | succ f ih =>
    intro x2 g hV
    rw [vr_image_144] at hV
    refine jj_iload_n (pc2 := 145) hC dX11_image_144 rfl 1 rfl rfl ?_
    refine jj_sipush (pc2 := 148) hC 160 dX11_image_145 (by decide) rfl ?_
    refine jj_icmp_ge (pc2 := 151) hC 167 dX11_image_148 (by decide) rfl (fun h25 => ?_) (fun h25 => ?_)
    · have hV := hV.1 h25
      exact jj_sub (lv2 := [(0, .ref (ad 0))]) [0] rfl (hK167 g hV)
    · have hV := hV.2 h25
      refine jj_aload_n (pc2 := 152) hC dX11_image_151 rfl 0 rfl rfl ?_
      refine jj_aload_n (pc2 := 153) hC dX11_image_152 rfl 0 rfl rfl ?_
      refine rg_26 (pc2 := 156) hC hi_X11_image_X11 lk_X11_image_9 dX11_image_153 rfl ?_
      refine jj_iload_n (pc2 := 157) hC dX11_image_156 rfl 1 rfl rfl ?_
      refine ra_26 (pc2 := 158) hC hV.1 dX11_image_157 rfl ?_
      have hV := hV.2
      refine jj_cVV (pc2 := 161) (wd := wr_d Y X cs ad) (g := g) (rest := []) hC (Y.length + 0) (jx_at (V := wr_W cs ad g) rfl) rfl rfl (cr_keep l D cs Y X ad (g 26 x2.toNatClampNeg) g _ hV) (cwV 1 hC.1.2.2.2.2 gX11_image_X11_keep rfl rfl rfl (by decide +kernel) ⟨by decide, by decide⟩) rfl (Nat.le_of_ble_eq_true rfl) _ rfl dX11_image_158 ⟨Nat.zero_le _, Nat.zero_le _⟩ rfl (fun g27 hV => ?_)
      refine jj_iinc (pc2 := 164) hC (x2 + 1) [(2, .int (x2 + 1)), (0, .ref (ad 0))] dX11_image_161 1 rfl rfl (by decide) rfl rfl ?_
      refine jj_goto hC 144 dX11_image_164 (by decide) ?_
      exact jj_sub (lv2 := [(0, .ref (ad 0)), (2, .int (x2 + 1))]) [1, 0] rfl (ih (x2 + 1) g27 hV)
set_option maxHeartbeats 4000000 in
set_option maxRecDepth 100000 in
theorem ar_image_169 {p : Program} {l : Launch} {e : Env} {s : State} {m : MethodId} {args : Array Value} {below : List Frame} {meth : Method} {c : Code} {D : va_G} {cs : Nat → ClassId} {Y X : va_W} {ad : Nat → Nat} {g0 : jm_M} (hC : JC p s m args meth c D vwCl (va_A (wr_d Y X cs ad g0) s.heap.size) 3 cX11_image (some .int) wsX11_image RX11 (jt_tys cs)) (Post : Int32 → jm_M → Prop) (K192 : jm_M → Prop) (hK192 : ∀ (g : jm_M) , K192 g → JJ (wr_d Y X cs ad) p l e rm_X11_image s m args below meth c D vwCl (va_A (wr_d Y X cs ad g0) s.heap.size) 3 0 0 (MQ below (jj_QI (wr_d Y X cs ad) D vwCl (jt_tys cs) g0 s.heap.size Post) args s 0 0 (va_A (wr_d Y X cs ad g0) s.heap.size)) 192 [(0, .ref (ad 0))] [] g) : ∀ (f : Nat) (x2 : Int32) (g : jm_M), vr_image_169 K192 Post f x2 g → JJ (wr_d Y X cs ad) p l e rm_X11_image s m args below meth c D vwCl (va_A (wr_d Y X cs ad g0) s.heap.size) 3 0 0 (MQ below (jj_QI (wr_d Y X cs ad) D vwCl (jt_tys cs) g0 s.heap.size Post) args s 0 0 (va_A (wr_d Y X cs ad g0) s.heap.size)) 169 [(0, .ref (ad 0)), (2, .int x2)] [] g := by
  intro f
  induction f with
  | zero => intro x2 g hV; exact hV.elim
  | succ f ih =>
    intro x2 g hV
    rw [vr_image_169] at hV
    refine jj_iload_n (pc2 := 170) hC dX11_image_169 rfl 1 rfl rfl ?_
    refine jj_sipush (pc2 := 173) hC 1024 dX11_image_170 (by decide) rfl ?_
    refine jj_icmp_ge (pc2 := 176) hC 192 dX11_image_173 (by decide) rfl (fun h29 => ?_) (fun h29 => ?_)
    · have hV := hV.1 h29
      exact jj_sub (lv2 := [(0, .ref (ad 0))]) [0] rfl (hK192 g hV)
    · have hV := hV.2 h29
      refine jj_aload_n (pc2 := 177) hC dX11_image_176 rfl 0 rfl rfl ?_
      refine jj_aload_n (pc2 := 178) hC dX11_image_177 rfl 0 rfl rfl ?_
      refine rg_27 (pc2 := 181) hC hi_X11_image_X11 lk_X11_image_10 dX11_image_178 rfl ?_
      refine jj_iload_n (pc2 := 182) hC dX11_image_181 rfl 1 rfl rfl ?_
      refine ra_27 (pc2 := 183) hC hV.1 dX11_image_182 rfl ?_
      have hV := hV.2
      refine jj_cVV (pc2 := 186) (wd := wr_d Y X cs ad) (g := g) (rest := []) hC (Y.length + 0) (jx_at (V := wr_W cs ad g) rfl) rfl rfl (cr_keep l D cs Y X ad (g 27 x2.toNatClampNeg) g _ hV) (cwV 1 hC.1.2.2.2.2 gX11_image_X11_keep rfl rfl rfl (by decide +kernel) ⟨by decide, by decide⟩) rfl (Nat.le_of_ble_eq_true rfl) _ rfl dX11_image_183 ⟨Nat.zero_le _, Nat.zero_le _⟩ rfl (fun g31 hV => ?_)
      refine jj_iinc (pc2 := 189) hC (x2 + 1) [(2, .int (x2 + 1)), (0, .ref (ad 0))] dX11_image_186 1 rfl rfl (by decide) rfl rfl ?_
      refine jj_goto hC 169 dX11_image_189 (by decide) ?_
      exact jj_sub (lv2 := [(0, .ref (ad 0)), (2, .int (x2 + 1))]) [1, 0] rfl (ih (x2 + 1) g31 hV)
set_option maxHeartbeats 4000000 in
set_option maxRecDepth 100000 in
theorem ar_image_194 {p : Program} {l : Launch} {e : Env} {s : State} {m : MethodId} {args : Array Value} {below : List Frame} {meth : Method} {c : Code} {D : va_G} {cs : Nat → ClassId} {Y X : va_W} {ad : Nat → Nat} {g0 : jm_M} (hC : JC p s m args meth c D vwCl (va_A (wr_d Y X cs ad g0) s.heap.size) 3 cX11_image (some .int) wsX11_image RX11 (jt_tys cs)) (Post : Int32 → jm_M → Prop) (K216 : jm_M → Prop) (hK216 : ∀ (g : jm_M) , K216 g → JJ (wr_d Y X cs ad) p l e rm_X11_image s m args below meth c D vwCl (va_A (wr_d Y X cs ad g0) s.heap.size) 3 0 0 (MQ below (jj_QI (wr_d Y X cs ad) D vwCl (jt_tys cs) g0 s.heap.size Post) args s 0 0 (va_A (wr_d Y X cs ad g0) s.heap.size)) 216 [(0, .ref (ad 0))] [] g) : ∀ (f : Nat) (x2 : Int32) (g : jm_M), vr_image_194 K216 Post f x2 g → JJ (wr_d Y X cs ad) p l e rm_X11_image s m args below meth c D vwCl (va_A (wr_d Y X cs ad g0) s.heap.size) 3 0 0 (MQ below (jj_QI (wr_d Y X cs ad) D vwCl (jt_tys cs) g0 s.heap.size Post) args s 0 0 (va_A (wr_d Y X cs ad g0) s.heap.size)) 194 [(0, .ref (ad 0)), (2, .int x2)] [] g := by
  intro f
  induction f with
  | zero => intro x2 g hV; exact hV.elim
  | succ f ih =>
    intro x2 g hV
    rw [vr_image_194] at hV
    refine jj_iload_n (pc2 := 195) hC dX11_image_194 rfl 1 rfl rfl ?_
    refine jj_bipush (pc2 := 197) hC 10 dX11_image_195 (by decide) rfl ?_
    refine jj_icmp_ge (pc2 := 200) hC 216 dX11_image_197 (by decide) rfl (fun h33 => ?_) (fun h33 => ?_)
    · have hV := hV.1 h33
      exact jj_sub (lv2 := [(0, .ref (ad 0))]) [0] rfl (hK216 g hV)
    · have hV := hV.2 h33
      refine jj_aload_n (pc2 := 201) hC dX11_image_200 rfl 0 rfl rfl ?_
      refine jj_aload_n (pc2 := 202) hC dX11_image_201 rfl 0 rfl rfl ?_
      refine rg_30 (pc2 := 205) hC hi_X11_image_X11 lk_X11_image_11 dX11_image_202 rfl ?_
      refine jj_iload_n (pc2 := 206) hC dX11_image_205 rfl 1 rfl rfl ?_
      refine ra_30 (pc2 := 207) hC hV.1 dX11_image_206 rfl ?_
      have hV := hV.2
      refine jj_cVV (pc2 := 210) (wd := wr_d Y X cs ad) (g := g) (rest := []) hC (Y.length + 0) (jx_at (V := wr_W cs ad g) rfl) rfl rfl (cr_keep l D cs Y X ad (g 30 x2.toNatClampNeg) g _ hV) (cwV 1 hC.1.2.2.2.2 gX11_image_X11_keep rfl rfl rfl (by decide +kernel) ⟨by decide, by decide⟩) rfl (Nat.le_of_ble_eq_true rfl) _ rfl dX11_image_207 ⟨Nat.zero_le _, Nat.zero_le _⟩ rfl (fun g35 hV => ?_)
      refine jj_iinc (pc2 := 213) hC (x2 + 1) [(2, .int (x2 + 1)), (0, .ref (ad 0))] dX11_image_210 1 rfl rfl (by decide) rfl rfl ?_
      refine jj_goto hC 194 dX11_image_213 (by decide) ?_
      exact jj_sub (lv2 := [(0, .ref (ad 0)), (2, .int (x2 + 1))]) [1, 0] rfl (ih (x2 + 1) g35 hV)
set_option maxHeartbeats 4000000 in
set_option maxRecDepth 100000 in
theorem ar_image_218 {p : Program} {l : Launch} {e : Env} {s : State} {m : MethodId} {args : Array Value} {below : List Frame} {meth : Method} {c : Code} {D : va_G} {cs : Nat → ClassId} {Y X : va_W} {ad : Nat → Nat} {g0 : jm_M} (hC : JC p s m args meth c D vwCl (va_A (wr_d Y X cs ad g0) s.heap.size) 3 cX11_image (some .int) wsX11_image RX11 (jt_tys cs)) (Post : Int32 → jm_M → Prop) (K239 : jm_M → Prop) (hK239 : ∀ (g : jm_M) , K239 g → JJ (wr_d Y X cs ad) p l e rm_X11_image s m args below meth c D vwCl (va_A (wr_d Y X cs ad g0) s.heap.size) 3 0 0 (MQ below (jj_QI (wr_d Y X cs ad) D vwCl (jt_tys cs) g0 s.heap.size Post) args s 0 0 (va_A (wr_d Y X cs ad g0) s.heap.size)) 239 [(0, .ref (ad 0))] [] g) : ∀ (f : Nat) (x2 : Int32) (g : jm_M), vr_image_218 K239 Post f x2 g → JJ (wr_d Y X cs ad) p l e rm_X11_image s m args below meth c D vwCl (va_A (wr_d Y X cs ad g0) s.heap.size) 3 0 0 (MQ below (jj_QI (wr_d Y X cs ad) D vwCl (jt_tys cs) g0 s.heap.size Post) args s 0 0 (va_A (wr_d Y X cs ad g0) s.heap.size)) 218 [(0, .ref (ad 0)), (2, .int x2)] [] g := by
  intro f
  induction f with
  | zero => intro x2 g hV; exact hV.elim
  | succ f ih =>
    intro x2 g hV
    rw [vr_image_218] at hV
    refine jj_iload_n (pc2 := 219) hC dX11_image_218 rfl 1 rfl rfl ?_
    refine jj_iconst (pc2 := 220) hC 5 dX11_image_219 (by decide) rfl ?_
    refine jj_icmp_ge (pc2 := 223) hC 239 dX11_image_220 (by decide) rfl (fun h37 => ?_) (fun h37 => ?_)
    · have hV := hV.1 h37
      exact jj_sub (lv2 := [(0, .ref (ad 0))]) [0] rfl (hK239 g hV)
    · have hV := hV.2 h37
      refine jj_aload_n (pc2 := 224) hC dX11_image_223 rfl 0 rfl rfl ?_
      refine jj_aload_n (pc2 := 225) hC dX11_image_224 rfl 0 rfl rfl ?_
      refine rg_59 (pc2 := 228) hC hi_X11_image_X11 lk_X11_image_12 dX11_image_225 rfl ?_
      refine jj_iload_n (pc2 := 229) hC dX11_image_228 rfl 1 rfl rfl ?_
      refine ra_59 (pc2 := 230) hC hV.1 dX11_image_229 rfl ?_
      have hV := hV.2
      refine jj_cVV (pc2 := 233) (wd := wr_d Y X cs ad) (g := g) (rest := []) hC (Y.length + 0) (jx_at (V := wr_W cs ad g) rfl) rfl rfl (cr_keep l D cs Y X ad (g 59 x2.toNatClampNeg) g _ hV) (cwV 1 hC.1.2.2.2.2 gX11_image_X11_keep rfl rfl rfl (by decide +kernel) ⟨by decide, by decide⟩) rfl (Nat.le_of_ble_eq_true rfl) _ rfl dX11_image_230 ⟨Nat.zero_le _, Nat.zero_le _⟩ rfl (fun g39 hV => ?_)
      refine jj_iinc (pc2 := 236) hC (x2 + 1) [(2, .int (x2 + 1)), (0, .ref (ad 0))] dX11_image_233 1 rfl rfl (by decide) rfl rfl ?_
      refine jj_goto hC 218 dX11_image_236 (by decide) ?_
      exact jj_sub (lv2 := [(0, .ref (ad 0)), (2, .int (x2 + 1))]) [1, 0] rfl (ih (x2 + 1) g39 hV)
set_option maxHeartbeats 4000000 in
set_option maxRecDepth 100000 in
theorem ar_image_289 {p : Program} {l : Launch} {e : Env} {s : State} {m : MethodId} {args : Array Value} {below : List Frame} {meth : Method} {c : Code} {D : va_G} {cs : Nat → ClassId} {Y X : va_W} {ad : Nat → Nat} {g0 : jm_M} (hC : JC p s m args meth c D vwCl (va_A (wr_d Y X cs ad g0) s.heap.size) 3 cX11_image (some .int) wsX11_image RX11 (jt_tys cs)) (Post : Int32 → jm_M → Prop) : ∀ (f : Nat) (x2 : Int32) (g : jm_M), vr_image_289 Post f x2 g → JJ (wr_d Y X cs ad) p l e rm_X11_image s m args below meth c D vwCl (va_A (wr_d Y X cs ad g0) s.heap.size) 3 0 0 (MQ below (jj_QI (wr_d Y X cs ad) D vwCl (jt_tys cs) g0 s.heap.size Post) args s 0 0 (va_A (wr_d Y X cs ad g0) s.heap.size)) 289 [(0, .ref (ad 0)), (2, .int x2)] [] g := by
  intro f
  induction f with
  | zero => intro x2 g hV; exact hV.elim
  | succ f ih =>
    intro x2 g hV
    rw [vr_image_289] at hV
    refine jj_iload_n (pc2 := 290) hC dX11_image_289 rfl 1 rfl rfl ?_
    refine jj_aload_n (pc2 := 291) hC dX11_image_290 rfl 0 rfl rfl ?_
    refine rg_40 (pc2 := 294) hC hi_X11_image_X11 lk_X11_image_17 dX11_image_291 rfl ?_
    refine jj_icmp_ge (pc2 := 297) hC 361 dX11_image_294 (by decide) rfl (fun h52 => ?_) (fun h52 => ?_)
    · have hV := hV.1 h52
      refine jj_iconst (pc2 := 362) hC 1 dX11_image_361 (by decide) rfl ?_
      exact jj_iret hC dX11_image_362 hV
    · have hV := hV.2 h52
      refine jj_aload_n (pc2 := 298) hC dX11_image_297 rfl 0 rfl rfl ?_
      refine jj_aload_n (pc2 := 299) hC dX11_image_298 rfl 0 rfl rfl ?_
      refine rg_41 (pc2 := 302) hC hi_X11_image_X11 lk_X11_image_18 dX11_image_299 rfl ?_
      refine jj_iload_n (pc2 := 303) hC dX11_image_302 rfl 1 rfl rfl ?_
      refine ra_41 (pc2 := 304) hC hV.1 dX11_image_303 rfl ?_
      have hV := hV.2
      refine jj_cVV (pc2 := 307) (wd := wr_d Y X cs ad) (g := g) (rest := []) hC (Y.length + 0) (jx_at (V := wr_W cs ad g) rfl) rfl rfl (cr_keep l D cs Y X ad (g 41 x2.toNatClampNeg) g _ hV) (cwV 1 hC.1.2.2.2.2 gX11_image_X11_keep rfl rfl rfl (by decide +kernel) ⟨by decide, by decide⟩) rfl (Nat.le_of_ble_eq_true rfl) _ rfl dX11_image_304 ⟨Nat.zero_le _, Nat.zero_le _⟩ rfl (fun g54 hV => ?_)
      refine jj_aload_n (pc2 := 308) hC dX11_image_307 rfl 0 rfl rfl ?_
      refine jj_aload_n (pc2 := 309) hC dX11_image_308 rfl 0 rfl rfl ?_
      refine rg_42 (pc2 := 312) hC hi_X11_image_X11 lk_X11_image_19 dX11_image_309 rfl ?_
      refine jj_iload_n (pc2 := 313) hC dX11_image_312 rfl 1 rfl rfl ?_
      refine ra_42 (pc2 := 314) hC hV.1 dX11_image_313 rfl ?_
      have hV := hV.2
      refine jj_cVV (pc2 := 317) (wd := wr_d Y X cs ad) (g := g54) (rest := []) hC (Y.length + 0) (jx_at (V := wr_W cs ad g54) rfl) rfl rfl (cr_keep l D cs Y X ad (g54 42 x2.toNatClampNeg) g54 _ hV) (cwV 1 hC.1.2.2.2.2 gX11_image_X11_keep rfl rfl rfl (by decide +kernel) ⟨by decide, by decide⟩) rfl (Nat.le_of_ble_eq_true rfl) _ rfl dX11_image_314 ⟨Nat.zero_le _, Nat.zero_le _⟩ rfl (fun g56 hV => ?_)
      refine jj_aload_n (pc2 := 318) hC dX11_image_317 rfl 0 rfl rfl ?_
      refine jj_aload_n (pc2 := 319) hC dX11_image_318 rfl 0 rfl rfl ?_
      refine rg_43 (pc2 := 322) hC hi_X11_image_X11 lk_X11_image_20 dX11_image_319 rfl ?_
      refine jj_iload_n (pc2 := 323) hC dX11_image_322 rfl 1 rfl rfl ?_
      refine ra_43 (pc2 := 324) hC hV.1 dX11_image_323 rfl ?_
      have hV := hV.2
      refine jj_cVV (pc2 := 327) (wd := wr_d Y X cs ad) (g := g56) (rest := []) hC (Y.length + 0) (jx_at (V := wr_W cs ad g56) rfl) rfl rfl (cr_keep l D cs Y X ad (g56 43 x2.toNatClampNeg) g56 _ hV) (cwV 1 hC.1.2.2.2.2 gX11_image_X11_keep rfl rfl rfl (by decide +kernel) ⟨by decide, by decide⟩) rfl (Nat.le_of_ble_eq_true rfl) _ rfl dX11_image_324 ⟨Nat.zero_le _, Nat.zero_le _⟩ rfl (fun g58 hV => ?_)
      refine jj_aload_n (pc2 := 328) hC dX11_image_327 rfl 0 rfl rfl ?_
      refine jj_aload_n (pc2 := 329) hC dX11_image_328 rfl 0 rfl rfl ?_
      refine rg_44 (pc2 := 332) hC hi_X11_image_X11 lk_X11_image_21 dX11_image_329 rfl ?_
      refine jj_iload_n (pc2 := 333) hC dX11_image_332 rfl 1 rfl rfl ?_
      refine ra_44 (pc2 := 334) hC hV.1 dX11_image_333 rfl ?_
      have hV := hV.2
      refine jj_cVV (pc2 := 337) (wd := wr_d Y X cs ad) (g := g58) (rest := []) hC (Y.length + 0) (jx_at (V := wr_W cs ad g58) rfl) rfl rfl (cr_keep l D cs Y X ad (g58 44 x2.toNatClampNeg) g58 _ hV) (cwV 1 hC.1.2.2.2.2 gX11_image_X11_keep rfl rfl rfl (by decide +kernel) ⟨by decide, by decide⟩) rfl (Nat.le_of_ble_eq_true rfl) _ rfl dX11_image_334 ⟨Nat.zero_le _, Nat.zero_le _⟩ rfl (fun g60 hV => ?_)
      refine jj_aload_n (pc2 := 338) hC dX11_image_337 rfl 0 rfl rfl ?_
      refine jj_aload_n (pc2 := 339) hC dX11_image_338 rfl 0 rfl rfl ?_
      refine rg_45 (pc2 := 342) hC hi_X11_image_X11 lk_X11_image_22 dX11_image_339 rfl ?_
      refine jj_iload_n (pc2 := 343) hC dX11_image_342 rfl 1 rfl rfl ?_
      refine ra_45 (pc2 := 344) hC hV.1 dX11_image_343 rfl ?_
      have hV := hV.2
      refine jj_if_eq (pc2 := 347) hC 351 dX11_image_344 (by decide) rfl (fun h61 => ?_) (fun h61 => ?_)
      · have hV := hV.1 h61
        refine jj_iconst (pc2 := 352) hC 0 dX11_image_351 (by decide) rfl ?_
        refine jj_cVV (pc2 := 355) (wd := wr_d Y X cs ad) (g := g60) (rest := []) hC (Y.length + 0) (jx_at (V := wr_W cs ad g60) rfl) rfl rfl (cr_keep l D cs Y X ad 0 g60 _ hV) (cwV 1 hC.1.2.2.2.2 gX11_image_X11_keep rfl rfl rfl (by decide +kernel) ⟨by decide, by decide⟩) rfl (Nat.le_of_ble_eq_true rfl) _ rfl dX11_image_352 ⟨Nat.zero_le _, Nat.zero_le _⟩ rfl (fun g63 hV => ?_)
        refine jj_iinc (pc2 := 358) hC (x2 + 1) [(2, .int (x2 + 1)), (0, .ref (ad 0))] dX11_image_355 1 rfl rfl (by decide) rfl rfl ?_
        refine jj_goto hC 289 dX11_image_358 (by decide) ?_
        exact jj_sub (lv2 := [(0, .ref (ad 0)), (2, .int (x2 + 1))]) [1, 0] rfl (ih (x2 + 1) g63 hV)
      · have hV := hV.2 h61
        refine jj_iconst (pc2 := 348) hC 1 dX11_image_347 (by decide) rfl ?_
        refine jj_goto hC 352 dX11_image_348 (by decide) ?_
        refine jj_cVV (pc2 := 355) (wd := wr_d Y X cs ad) (g := g60) (rest := []) hC (Y.length + 0) (jx_at (V := wr_W cs ad g60) rfl) rfl rfl (cr_keep l D cs Y X ad 1 g60 _ hV) (cwV 1 hC.1.2.2.2.2 gX11_image_X11_keep rfl rfl rfl (by decide +kernel) ⟨by decide, by decide⟩) rfl (Nat.le_of_ble_eq_true rfl) _ rfl dX11_image_352 ⟨Nat.zero_le _, Nat.zero_le _⟩ rfl (fun g65 hV => ?_)
        refine jj_iinc (pc2 := 358) hC (x2 + 1) [(2, .int (x2 + 1)), (0, .ref (ad 0))] dX11_image_355 1 rfl rfl (by decide) rfl rfl ?_
        refine jj_goto hC 289 dX11_image_358 (by decide) ?_
        exact jj_sub (lv2 := [(0, .ref (ad 0)), (2, .int (x2 + 1))]) [1, 0] rfl (ih (x2 + 1) g65 hV)
set_option maxHeartbeats 4000000 in
set_option maxRecDepth 100000 in
theorem cr_image (l : Launch) (D : va_G) (cs : Nat → ClassId) (Y X : va_W) (ad : Nat → Nat) (a1 : Int32) (g0 : jm_M) (Post : Int32 → jm_M → Prop) (hV : vr_image a1 g0 Post) : JI (wr_d Y X cs ad) D vwCl (jt_tys cs) l yX11_image wsX11_image rm_X11_image 0 0 [.ref (ad 0), .int a1] g0 Post := by
  refine jj_metI (cc := cX11_image) (nL := 3) (ret := (some .int)) (by decide) rfl (Nat.le_of_ble_eq_true rfl) [(0, .ref (ad 0)), (1, .int a1)] rfl ?_
  intro p e s m args below meth c hC hnm
  rw [vr_image] at hV
  refine jj_iload_n (pc2 := 1) hC dX11_image_0 rfl 1 rfl rfl ?_
  refine jj_iconst (pc2 := 2) hC 0 dX11_image_1 (by decide) rfl ?_
  refine jj_iconst (pc2 := 3) hC 3 dX11_image_2 (by decide) rfl ?_
  refine jj_cSIp (pc2 := 6) (wd := wr_d Y X cs ad) (g := g0) (rest := []) hC (cr_in l D cs Y X ad a1 0 3 g0 _ hV) (va_cwS 3 hC.1.2.2.2.2 gX11_image_X11_in rfl rfl rfl (by decide +kernel) ⟨by decide, by decide⟩) rfl (Nat.le_of_ble_eq_true rfl) _ rfl dX11_image_3 ⟨Nat.zero_le _, Nat.zero_le _⟩ rfl (fun r1 hV => ?_)
  refine jj_if_ne (pc2 := 9) hC 11 dX11_image_6 (by decide) rfl (fun h2 => ?_) (fun h2 => ?_)
  · have hV := hV.1 h2
    refine jj_aload_n (pc2 := 12) hC dX11_image_11 rfl 0 rfl rfl ?_
    refine jj_sipush (pc2 := 15) hC 13400 dX11_image_12 (by decide) rfl ?_
    refine jj_iload_n (pc2 := 16) hC dX11_image_15 rfl 1 rfl rfl ?_
    refine jj_imul (pc2 := 17) hC dX11_image_16 rfl ?_
    refine rp_62 (pc2 := 20) hC hi_X11_image_X11 lk_X11_image_1 dX11_image_17 rfl (fun g3 eg3 => ?_)
    have hV := hV g3 eg3
    refine jj_aload_n (pc2 := 21) hC dX11_image_20 rfl 0 rfl rfl ?_
    refine rg_60 (pc2 := 24) hC hi_X11_image_X11 lk_X11_image_2 dX11_image_21 rfl ?_
    refine jj_iload_n (pc2 := 25) hC dX11_image_24 rfl 1 rfl rfl ?_
    refine jj_iconst (pc2 := 26) hC 1 dX11_image_25 (by decide) rfl ?_
    refine rs_60 (pc2 := 27) hC hV.1 jj_nb1 dX11_image_26 rfl (fun g4 eg4 => ?_)
    have hV := hV.2 g4 eg4
    refine jj_aload_n (pc2 := 28) hC dX11_image_27 rfl 0 rfl rfl ?_
    refine jj_aload_n (pc2 := 29) hC dX11_image_28 rfl 0 rfl rfl ?_
    refine rg_1 (pc2 := 32) hC hi_X11_image_X11 lk_X11_image_3 dX11_image_29 rfl ?_
    refine jj_cVV (pc2 := 35) (wd := wr_d Y X cs ad) (g := g4) (rest := []) hC (Y.length + 0) (jx_at (V := wr_W cs ad g4) rfl) rfl rfl (cr_keep l D cs Y X ad (g4 1 0) g4 _ hV) (cwV 1 hC.1.2.2.2.2 gX11_image_X11_keep rfl rfl rfl (by decide +kernel) ⟨by decide, by decide⟩) rfl (Nat.le_of_ble_eq_true rfl) _ rfl dX11_image_32 ⟨Nat.zero_le _, Nat.zero_le _⟩ rfl (fun g6 hV => ?_)
    refine jj_aload_n (pc2 := 36) hC dX11_image_35 rfl 0 rfl rfl ?_
    refine jj_aload_n (pc2 := 37) hC dX11_image_36 rfl 0 rfl rfl ?_
    refine rg_3 (pc2 := 40) hC hi_X11_image_X11 lk_X11_image_4 dX11_image_37 rfl ?_
    refine jj_cVV (pc2 := 43) (wd := wr_d Y X cs ad) (g := g6) (rest := []) hC (Y.length + 0) (jx_at (V := wr_W cs ad g6) rfl) rfl rfl (cr_keep l D cs Y X ad (g6 3 0) g6 _ hV) (cwV 1 hC.1.2.2.2.2 gX11_image_X11_keep rfl rfl rfl (by decide +kernel) ⟨by decide, by decide⟩) rfl (Nat.le_of_ble_eq_true rfl) _ rfl dX11_image_40 ⟨Nat.zero_le _, Nat.zero_le _⟩ rfl (fun g8 hV => ?_)
    refine jj_iconst (pc2 := 44) hC 0 dX11_image_43 (by decide) rfl ?_
    refine jj_istore_n (pc2 := 45) hC [(2, .int 0), (0, .ref (ad 0)), (1, .int a1)] dX11_image_44 rfl (by decide) rfl rfl ?_
    obtain ⟨n85, hV⟩ := hV
    refine jj_sub (lv2 := [(0, .ref (ad 0)), (2, .int 0)]) [1, 0] rfl (ar_image_45 hC Post _ (fun g12 hV => ?_) n85 0 g8 hV)
    refine jj_iconst (pc2 := 69) hC 0 dX11_image_68 (by decide) rfl ?_
    refine jj_istore_n (pc2 := 70) hC [(2, .int 0), (0, .ref (ad 0))] dX11_image_69 rfl (by decide) rfl rfl ?_
    obtain ⟨n84, hV⟩ := hV
    refine jj_sub (lv2 := [(0, .ref (ad 0)), (2, .int 0)]) [1, 0] rfl (ar_image_70 hC Post _ (fun g16 hV => ?_) n84 0 g12 hV)
    refine jj_iconst (pc2 := 94) hC 0 dX11_image_93 (by decide) rfl ?_
    refine jj_istore_n (pc2 := 95) hC [(2, .int 0), (0, .ref (ad 0))] dX11_image_94 rfl (by decide) rfl rfl ?_
    obtain ⟨n83, hV⟩ := hV
    refine jj_sub (lv2 := [(0, .ref (ad 0)), (2, .int 0)]) [1, 0] rfl (ar_image_95 hC Post _ (fun g20 hV => ?_) n83 0 g16 hV)
    refine jj_iconst (pc2 := 118) hC 0 dX11_image_117 (by decide) rfl ?_
    refine jj_istore_n (pc2 := 119) hC [(2, .int 0), (0, .ref (ad 0))] dX11_image_118 rfl (by decide) rfl rfl ?_
    obtain ⟨n82, hV⟩ := hV
    refine jj_sub (lv2 := [(0, .ref (ad 0)), (2, .int 0)]) [1, 0] rfl (ar_image_119 hC Post _ (fun g24 hV => ?_) n82 0 g20 hV)
    refine jj_iconst (pc2 := 143) hC 0 dX11_image_142 (by decide) rfl ?_
    refine jj_istore_n (pc2 := 144) hC [(2, .int 0), (0, .ref (ad 0))] dX11_image_143 rfl (by decide) rfl rfl ?_
    obtain ⟨n81, hV⟩ := hV
    refine jj_sub (lv2 := [(0, .ref (ad 0)), (2, .int 0)]) [1, 0] rfl (ar_image_144 hC Post _ (fun g28 hV => ?_) n81 0 g24 hV)
    refine jj_iconst (pc2 := 168) hC 0 dX11_image_167 (by decide) rfl ?_
    refine jj_istore_n (pc2 := 169) hC [(2, .int 0), (0, .ref (ad 0))] dX11_image_168 rfl (by decide) rfl rfl ?_
    obtain ⟨n80, hV⟩ := hV
    refine jj_sub (lv2 := [(0, .ref (ad 0)), (2, .int 0)]) [1, 0] rfl (ar_image_169 hC Post _ (fun g32 hV => ?_) n80 0 g28 hV)
    refine jj_iconst (pc2 := 193) hC 0 dX11_image_192 (by decide) rfl ?_
    refine jj_istore_n (pc2 := 194) hC [(2, .int 0), (0, .ref (ad 0))] dX11_image_193 rfl (by decide) rfl rfl ?_
    obtain ⟨n79, hV⟩ := hV
    refine jj_sub (lv2 := [(0, .ref (ad 0)), (2, .int 0)]) [1, 0] rfl (ar_image_194 hC Post _ (fun g36 hV => ?_) n79 0 g32 hV)
    refine jj_iconst (pc2 := 217) hC 0 dX11_image_216 (by decide) rfl ?_
    refine jj_istore_n (pc2 := 218) hC [(2, .int 0), (0, .ref (ad 0))] dX11_image_217 rfl (by decide) rfl rfl ?_
    obtain ⟨n78, hV⟩ := hV
    refine jj_sub (lv2 := [(0, .ref (ad 0)), (2, .int 0)]) [1, 0] rfl (ar_image_218 hC Post _ (fun g40 hV => ?_) n78 0 g36 hV)
    refine jj_aload_n (pc2 := 240) hC dX11_image_239 rfl 0 rfl rfl ?_
    refine jj_aload_n (pc2 := 241) hC dX11_image_240 rfl 0 rfl rfl ?_
    refine rg_58 (pc2 := 244) hC hi_X11_image_X11 lk_X11_image_13 dX11_image_241 rfl ?_
    refine jj_if_eq (pc2 := 247) hC 251 dX11_image_244 (by decide) rfl (fun h41 => ?_) (fun h41 => ?_)
    · have hV := hV.1 h41
      refine jj_iconst (pc2 := 252) hC 0 dX11_image_251 (by decide) rfl ?_
      refine jj_cVV (pc2 := 255) (wd := wr_d Y X cs ad) (g := g40) (rest := []) hC (Y.length + 0) (jx_at (V := wr_W cs ad g40) rfl) rfl rfl (cr_keep l D cs Y X ad 0 g40 _ hV) (cwV 1 hC.1.2.2.2.2 gX11_image_X11_keep rfl rfl rfl (by decide +kernel) ⟨by decide, by decide⟩) rfl (Nat.le_of_ble_eq_true rfl) _ rfl dX11_image_252 ⟨Nat.zero_le _, Nat.zero_le _⟩ rfl (fun g43 hV => ?_)
      refine jj_aload_n (pc2 := 256) hC dX11_image_255 rfl 0 rfl rfl ?_
      refine jj_aload_n (pc2 := 257) hC dX11_image_256 rfl 0 rfl rfl ?_
      refine rg_57 (pc2 := 260) hC hi_X11_image_X11 lk_X11_image_14 dX11_image_257 rfl ?_
      refine jj_cVV (pc2 := 263) (wd := wr_d Y X cs ad) (g := g43) (rest := []) hC (Y.length + 0) (jx_at (V := wr_W cs ad g43) rfl) rfl rfl (cr_keep l D cs Y X ad (g43 57 0) g43 _ hV) (cwV 1 hC.1.2.2.2.2 gX11_image_X11_keep rfl rfl rfl (by decide +kernel) ⟨by decide, by decide⟩) rfl (Nat.le_of_ble_eq_true rfl) _ rfl dX11_image_260 ⟨Nat.zero_le _, Nat.zero_le _⟩ rfl (fun g45 hV => ?_)
      refine jj_aload_n (pc2 := 264) hC dX11_image_263 rfl 0 rfl rfl ?_
      refine jj_aload_n (pc2 := 265) hC dX11_image_264 rfl 0 rfl rfl ?_
      refine rg_28 (pc2 := 268) hC hi_X11_image_X11 lk_X11_image_15 dX11_image_265 rfl ?_
      refine jj_cVV (pc2 := 271) (wd := wr_d Y X cs ad) (g := g45) (rest := []) hC (Y.length + 0) (jx_at (V := wr_W cs ad g45) rfl) rfl rfl (cr_keep l D cs Y X ad (g45 28 0) g45 _ hV) (cwV 1 hC.1.2.2.2.2 gX11_image_X11_keep rfl rfl rfl (by decide +kernel) ⟨by decide, by decide⟩) rfl (Nat.le_of_ble_eq_true rfl) _ rfl dX11_image_268 ⟨Nat.zero_le _, Nat.zero_le _⟩ rfl (fun g47 hV => ?_)
      refine jj_aload_n (pc2 := 272) hC dX11_image_271 rfl 0 rfl rfl ?_
      refine jj_aload_n (pc2 := 273) hC dX11_image_272 rfl 0 rfl rfl ?_
      refine rg_29 (pc2 := 276) hC hi_X11_image_X11 lk_X11_image_16 dX11_image_273 rfl ?_
      refine jj_cVV (pc2 := 279) (wd := wr_d Y X cs ad) (g := g47) (rest := []) hC (Y.length + 0) (jx_at (V := wr_W cs ad g47) rfl) rfl rfl (cr_keep l D cs Y X ad (g47 29 0) g47 _ hV) (cwV 1 hC.1.2.2.2.2 gX11_image_X11_keep rfl rfl rfl (by decide +kernel) ⟨by decide, by decide⟩) rfl (Nat.le_of_ble_eq_true rfl) _ rfl dX11_image_276 ⟨Nat.zero_le _, Nat.zero_le _⟩ rfl (fun g49 hV => ?_)
      refine jj_aload_n (pc2 := 280) hC dX11_image_279 rfl 0 rfl rfl ?_
      refine jj_aload_n (pc2 := 281) hC dX11_image_280 rfl 0 rfl rfl ?_
      refine rg_40 (pc2 := 284) hC hi_X11_image_X11 lk_X11_image_17 dX11_image_281 rfl ?_
      refine jj_cVV (pc2 := 287) (wd := wr_d Y X cs ad) (g := g49) (rest := []) hC (Y.length + 0) (jx_at (V := wr_W cs ad g49) rfl) rfl rfl (cr_keep l D cs Y X ad (g49 40 0) g49 _ hV) (cwV 1 hC.1.2.2.2.2 gX11_image_X11_keep rfl rfl rfl (by decide +kernel) ⟨by decide, by decide⟩) rfl (Nat.le_of_ble_eq_true rfl) _ rfl dX11_image_284 ⟨Nat.zero_le _, Nat.zero_le _⟩ rfl (fun g51 hV => ?_)
      refine jj_iconst (pc2 := 288) hC 0 dX11_image_287 (by decide) rfl ?_
      refine jj_istore_n (pc2 := 289) hC [(2, .int 0), (0, .ref (ad 0))] dX11_image_288 rfl (by decide) rfl rfl ?_
      obtain ⟨n66, hV⟩ := hV
      refine jj_sub (lv2 := [(0, .ref (ad 0)), (2, .int 0)]) [1, 0] rfl (ar_image_289 hC Post n66 0 g51 hV)
    · have hV := hV.2 h41
      refine jj_iconst (pc2 := 248) hC 1 dX11_image_247 (by decide) rfl ?_
      refine jj_goto hC 252 dX11_image_248 (by decide) ?_
      refine jj_cVV (pc2 := 255) (wd := wr_d Y X cs ad) (g := g40) (rest := []) hC (Y.length + 0) (jx_at (V := wr_W cs ad g40) rfl) rfl rfl (cr_keep l D cs Y X ad 1 g40 _ hV) (cwV 1 hC.1.2.2.2.2 gX11_image_X11_keep rfl rfl rfl (by decide +kernel) ⟨by decide, by decide⟩) rfl (Nat.le_of_ble_eq_true rfl) _ rfl dX11_image_252 ⟨Nat.zero_le _, Nat.zero_le _⟩ rfl (fun g68 hV => ?_)
      refine jj_aload_n (pc2 := 256) hC dX11_image_255 rfl 0 rfl rfl ?_
      refine jj_aload_n (pc2 := 257) hC dX11_image_256 rfl 0 rfl rfl ?_
      refine rg_57 (pc2 := 260) hC hi_X11_image_X11 lk_X11_image_14 dX11_image_257 rfl ?_
      refine jj_cVV (pc2 := 263) (wd := wr_d Y X cs ad) (g := g68) (rest := []) hC (Y.length + 0) (jx_at (V := wr_W cs ad g68) rfl) rfl rfl (cr_keep l D cs Y X ad (g68 57 0) g68 _ hV) (cwV 1 hC.1.2.2.2.2 gX11_image_X11_keep rfl rfl rfl (by decide +kernel) ⟨by decide, by decide⟩) rfl (Nat.le_of_ble_eq_true rfl) _ rfl dX11_image_260 ⟨Nat.zero_le _, Nat.zero_le _⟩ rfl (fun g70 hV => ?_)
      refine jj_aload_n (pc2 := 264) hC dX11_image_263 rfl 0 rfl rfl ?_
      refine jj_aload_n (pc2 := 265) hC dX11_image_264 rfl 0 rfl rfl ?_
      refine rg_28 (pc2 := 268) hC hi_X11_image_X11 lk_X11_image_15 dX11_image_265 rfl ?_
      refine jj_cVV (pc2 := 271) (wd := wr_d Y X cs ad) (g := g70) (rest := []) hC (Y.length + 0) (jx_at (V := wr_W cs ad g70) rfl) rfl rfl (cr_keep l D cs Y X ad (g70 28 0) g70 _ hV) (cwV 1 hC.1.2.2.2.2 gX11_image_X11_keep rfl rfl rfl (by decide +kernel) ⟨by decide, by decide⟩) rfl (Nat.le_of_ble_eq_true rfl) _ rfl dX11_image_268 ⟨Nat.zero_le _, Nat.zero_le _⟩ rfl (fun g72 hV => ?_)
      refine jj_aload_n (pc2 := 272) hC dX11_image_271 rfl 0 rfl rfl ?_
      refine jj_aload_n (pc2 := 273) hC dX11_image_272 rfl 0 rfl rfl ?_
      refine rg_29 (pc2 := 276) hC hi_X11_image_X11 lk_X11_image_16 dX11_image_273 rfl ?_
      refine jj_cVV (pc2 := 279) (wd := wr_d Y X cs ad) (g := g72) (rest := []) hC (Y.length + 0) (jx_at (V := wr_W cs ad g72) rfl) rfl rfl (cr_keep l D cs Y X ad (g72 29 0) g72 _ hV) (cwV 1 hC.1.2.2.2.2 gX11_image_X11_keep rfl rfl rfl (by decide +kernel) ⟨by decide, by decide⟩) rfl (Nat.le_of_ble_eq_true rfl) _ rfl dX11_image_276 ⟨Nat.zero_le _, Nat.zero_le _⟩ rfl (fun g74 hV => ?_)
      refine jj_aload_n (pc2 := 280) hC dX11_image_279 rfl 0 rfl rfl ?_
      refine jj_aload_n (pc2 := 281) hC dX11_image_280 rfl 0 rfl rfl ?_
      refine rg_40 (pc2 := 284) hC hi_X11_image_X11 lk_X11_image_17 dX11_image_281 rfl ?_
      refine jj_cVV (pc2 := 287) (wd := wr_d Y X cs ad) (g := g74) (rest := []) hC (Y.length + 0) (jx_at (V := wr_W cs ad g74) rfl) rfl rfl (cr_keep l D cs Y X ad (g74 40 0) g74 _ hV) (cwV 1 hC.1.2.2.2.2 gX11_image_X11_keep rfl rfl rfl (by decide +kernel) ⟨by decide, by decide⟩) rfl (Nat.le_of_ble_eq_true rfl) _ rfl dX11_image_284 ⟨Nat.zero_le _, Nat.zero_le _⟩ rfl (fun g76 hV => ?_)
      refine jj_iconst (pc2 := 288) hC 0 dX11_image_287 (by decide) rfl ?_
      refine jj_istore_n (pc2 := 289) hC [(2, .int 0), (0, .ref (ad 0))] dX11_image_288 rfl (by decide) rfl rfl ?_
      obtain ⟨n77, hV⟩ := hV
      refine jj_sub (lv2 := [(0, .ref (ad 0)), (2, .int 0)]) [1, 0] rfl (ar_image_289 hC Post n77 0 g76 hV)
  · have hV := hV.2 h2
    refine jj_iconst (pc2 := 10) hC (-1) dX11_image_9 (by decide) rfl ?_
    exact jj_iret hC dX11_image_10 hV
