theorem lk_X0_init_1 : Cond.methodLink RX0 3 objectInit ∈ wsX0_init := List.mem_of_getElem? (i := 1) rfl
theorem lk_X0_init_2 : Cond.instanceMethod objectInit ∈ wsX0_init := List.mem_of_getElem? (i := 2) rfl
theorem lk_X0_init_3 : Cond.code objectInit ⟨#[0xb1]⟩ 1 none ∈ wsX0_init := List.mem_of_getElem? (i := 3) rfl
theorem lk_X0_init_4 : Cond.arrayClass .int ∈ wsX0_init := List.mem_of_getElem? (i := 4) rfl
theorem hi_X0_init_X0 : ∀ w ∈ u_ws RX0 TX0 10, w ∈ wsX0_init := fun _ h => List.mem_cons_of_mem _ (List.mem_append_right _ h)
theorem lk_X0_init_5 : Cond.fieldLink RX0 9 "PartedHouse$Act" "cells" "[I" ∈ wsX0_init := List.mem_of_getElem? (i := 5) rfl
theorem lk_X0_init_6 : Cond.arrayClass .boolean ∈ wsX0_init := List.mem_of_getElem? (i := 6) rfl
theorem lk_X0_init_7 : Cond.fieldLink RX0 15 "PartedHouse$Act" "isWritten" "[Z" ∈ wsX0_init := List.mem_of_getElem? (i := 7) rfl
theorem lk_X0_init_8 : Cond.fieldLink RX0 19 "PartedHouse$Act" "written" "[I" ∈ wsX0_init := List.mem_of_getElem? (i := 8) rfl
theorem lk_X0_init_9 : Cond.fieldLink RX0 22 "PartedHouse$Act" "ties" "[I" ∈ wsX0_init := List.mem_of_getElem? (i := 9) rfl
theorem lk_X0_init_10 : Cond.fieldLink RX0 25 "PartedHouse$Act" "openRoutines" "[I" ∈ wsX0_init := List.mem_of_getElem? (i := 10) rfl
theorem lk_X0_init_11 : Cond.fieldLink RX0 28 "PartedHouse$Act" "nextLines" "[I" ∈ wsX0_init := List.mem_of_getElem? (i := 11) rfl
abbrev rm_X0_init : Room := { frames := 1, cells := 6, slots := 700, locals := 40 }
-- the cells behind X0_init
set_option maxHeartbeats 4000000 in
set_option maxRecDepth 100000 in
theorem ki_X0_init (l : Launch) (D : va_G) (cs : Nat → ClassId) (X : va_W) (h0 : Nat) : JV (jp_d X) D vwCl (jt_tys cs) l yX0_init wsX0_init rm_X0_init 6 700 [.ref h0] [(h0, .inr (0, [.null, .null, .null, .null, .null, .null, .int 0, .int 0, .int 0, .int 0]))] (fun w => ∃ (q1 q2 q3 q4 q5 q6 : Nat), w = [(h0, .inr (0, [.ref q1, .ref q2, .ref q3, .ref q4, .ref q5, .ref q6, .int 0, .int 0, .int 0, .int 0])), (q1, .inl (cs 0, 128, .inl (fun _ => 0))), (q2, .inl (cs 2, 128, .inl (fun _ => 0))), (q3, .inl (cs 0, 128, .inl (fun _ => 0))), (q4, .inl (cs 0, 300, .inl (fun _ => 0))), (q5, .inl (cs 0, 8, .inl (fun _ => 0))), (q6, .inl (cs 0, 8, .inl (fun _ => 0)))]) := by
  refine jj_metV (cc := cX0_init) (nL := 1) (ret := none) (by decide) rfl (Nat.le_of_ble_eq_true rfl) [(0, .ref h0)] rfl ?_
  intro p e s m args below meth c hC hnm
  refine jj_aload_n (pc2 := 1) hC dX0_init_0 rfl 0 rfl rfl ?_
  refine jj_objInit (pc2 := 4) (rest := []) hC lk_X0_init_1 lk_X0_init_2 lk_X0_init_3 dX0_init_1 (by decide) (Nat.le_of_ble_eq_true rfl) rfl ?_
  refine jj_aload_n (pc2 := 5) hC dX0_init_4 rfl 0 rfl rfl ?_
  refine jj_sipush (pc2 := 8) hC 128 dX0_init_5 (by decide) rfl ?_
  refine jp_newI (pc2 := 10) hC lk_X0_init_4 (by decide) (N := 128) (by decide) (by decide) ⟨by decide, by decide⟩ dX0_init_8 rfl (fun q1 => [(h0, .inr (0, [.null, .null, .null, .null, .null, .null, .int 0, .int 0, .int 0, .int 0])), (q1, .inl (cs 0, 128, .inl (fun _ => 0)))]) (fun _ => rfl) (fun q1 => ?_)
  refine jj_putF (pc2 := 13) (wd := jp_d X) hC hnm hi_X0_init_X0 0 rfl rfl 0 (by decide) lk_X0_init_5 rfl tyX0 tyX0_ok nmX0 rfl rfl rfl rfl (Nat.le_of_ble_eq_true rfl) [(h0, .inr (0, [.ref q1, .null, .null, .null, .null, .null, .int 0, .int 0, .int 0, .int 0])), (q1, .inl (cs 0, 128, .inl (fun _ => 0)))] rfl dX0_init_10 rfl ?_
  refine jj_aload_n (pc2 := 14) hC dX0_init_13 rfl 0 rfl rfl ?_
  refine jj_sipush (pc2 := 17) hC 128 dX0_init_14 (by decide) rfl ?_
  refine jp_newZ (pc2 := 19) hC lk_X0_init_6 (by decide) (N := 128) (by decide) (by decide) ⟨by decide, by decide⟩ dX0_init_17 rfl (fun q2 => [(h0, .inr (0, [.ref q1, .null, .null, .null, .null, .null, .int 0, .int 0, .int 0, .int 0])), (q1, .inl (cs 0, 128, .inl (fun _ => 0))), (q2, .inl (cs 2, 128, .inl (fun _ => 0)))]) (fun _ => rfl) (fun q2 => ?_)
  refine jj_putF (pc2 := 22) (wd := jp_d X) hC hnm hi_X0_init_X0 0 rfl rfl 1 (by decide) lk_X0_init_7 rfl tyX0 tyX0_ok nmX0 rfl rfl rfl rfl (Nat.le_of_ble_eq_true rfl) [(h0, .inr (0, [.ref q1, .ref q2, .null, .null, .null, .null, .int 0, .int 0, .int 0, .int 0])), (q1, .inl (cs 0, 128, .inl (fun _ => 0))), (q2, .inl (cs 2, 128, .inl (fun _ => 0)))] rfl dX0_init_19 rfl ?_
  refine jj_aload_n (pc2 := 23) hC dX0_init_22 rfl 0 rfl rfl ?_
  refine jj_sipush (pc2 := 26) hC 128 dX0_init_23 (by decide) rfl ?_
  refine jp_newI (pc2 := 28) hC lk_X0_init_4 (by decide) (N := 128) (by decide) (by decide) ⟨by decide, by decide⟩ dX0_init_26 rfl (fun q3 => [(h0, .inr (0, [.ref q1, .ref q2, .null, .null, .null, .null, .int 0, .int 0, .int 0, .int 0])), (q1, .inl (cs 0, 128, .inl (fun _ => 0))), (q2, .inl (cs 2, 128, .inl (fun _ => 0))), (q3, .inl (cs 0, 128, .inl (fun _ => 0)))]) (fun _ => rfl) (fun q3 => ?_)
  refine jj_putF (pc2 := 31) (wd := jp_d X) hC hnm hi_X0_init_X0 0 rfl rfl 2 (by decide) lk_X0_init_8 rfl tyX0 tyX0_ok nmX0 rfl rfl rfl rfl (Nat.le_of_ble_eq_true rfl) [(h0, .inr (0, [.ref q1, .ref q2, .ref q3, .null, .null, .null, .int 0, .int 0, .int 0, .int 0])), (q1, .inl (cs 0, 128, .inl (fun _ => 0))), (q2, .inl (cs 2, 128, .inl (fun _ => 0))), (q3, .inl (cs 0, 128, .inl (fun _ => 0)))] rfl dX0_init_28 rfl ?_
  refine jj_aload_n (pc2 := 32) hC dX0_init_31 rfl 0 rfl rfl ?_
  refine jj_sipush (pc2 := 35) hC 300 dX0_init_32 (by decide) rfl ?_
  refine jp_newI (pc2 := 37) hC lk_X0_init_4 (by decide) (N := 300) (by decide) (by decide) ⟨by decide, by decide⟩ dX0_init_35 rfl (fun q4 => [(h0, .inr (0, [.ref q1, .ref q2, .ref q3, .null, .null, .null, .int 0, .int 0, .int 0, .int 0])), (q1, .inl (cs 0, 128, .inl (fun _ => 0))), (q2, .inl (cs 2, 128, .inl (fun _ => 0))), (q3, .inl (cs 0, 128, .inl (fun _ => 0))), (q4, .inl (cs 0, 300, .inl (fun _ => 0)))]) (fun _ => rfl) (fun q4 => ?_)
  refine jj_putF (pc2 := 40) (wd := jp_d X) hC hnm hi_X0_init_X0 0 rfl rfl 3 (by decide) lk_X0_init_9 rfl tyX0 tyX0_ok nmX0 rfl rfl rfl rfl (Nat.le_of_ble_eq_true rfl) [(h0, .inr (0, [.ref q1, .ref q2, .ref q3, .ref q4, .null, .null, .int 0, .int 0, .int 0, .int 0])), (q1, .inl (cs 0, 128, .inl (fun _ => 0))), (q2, .inl (cs 2, 128, .inl (fun _ => 0))), (q3, .inl (cs 0, 128, .inl (fun _ => 0))), (q4, .inl (cs 0, 300, .inl (fun _ => 0)))] rfl dX0_init_37 rfl ?_
  refine jj_aload_n (pc2 := 41) hC dX0_init_40 rfl 0 rfl rfl ?_
  refine jj_bipush (pc2 := 43) hC 8 dX0_init_41 (by decide) rfl ?_
  refine jp_newI (pc2 := 45) hC lk_X0_init_4 (by decide) (N := 8) (by decide) (by decide) ⟨by decide, by decide⟩ dX0_init_43 rfl (fun q5 => [(h0, .inr (0, [.ref q1, .ref q2, .ref q3, .ref q4, .null, .null, .int 0, .int 0, .int 0, .int 0])), (q1, .inl (cs 0, 128, .inl (fun _ => 0))), (q2, .inl (cs 2, 128, .inl (fun _ => 0))), (q3, .inl (cs 0, 128, .inl (fun _ => 0))), (q4, .inl (cs 0, 300, .inl (fun _ => 0))), (q5, .inl (cs 0, 8, .inl (fun _ => 0)))]) (fun _ => rfl) (fun q5 => ?_)
  refine jj_putF (pc2 := 48) (wd := jp_d X) hC hnm hi_X0_init_X0 0 rfl rfl 4 (by decide) lk_X0_init_10 rfl tyX0 tyX0_ok nmX0 rfl rfl rfl rfl (Nat.le_of_ble_eq_true rfl) [(h0, .inr (0, [.ref q1, .ref q2, .ref q3, .ref q4, .ref q5, .null, .int 0, .int 0, .int 0, .int 0])), (q1, .inl (cs 0, 128, .inl (fun _ => 0))), (q2, .inl (cs 2, 128, .inl (fun _ => 0))), (q3, .inl (cs 0, 128, .inl (fun _ => 0))), (q4, .inl (cs 0, 300, .inl (fun _ => 0))), (q5, .inl (cs 0, 8, .inl (fun _ => 0)))] rfl dX0_init_45 rfl ?_
  refine jj_aload_n (pc2 := 49) hC dX0_init_48 rfl 0 rfl rfl ?_
  refine jj_bipush (pc2 := 51) hC 8 dX0_init_49 (by decide) rfl ?_
  refine jp_newI (pc2 := 53) hC lk_X0_init_4 (by decide) (N := 8) (by decide) (by decide) ⟨by decide, by decide⟩ dX0_init_51 rfl (fun q6 => [(h0, .inr (0, [.ref q1, .ref q2, .ref q3, .ref q4, .ref q5, .null, .int 0, .int 0, .int 0, .int 0])), (q1, .inl (cs 0, 128, .inl (fun _ => 0))), (q2, .inl (cs 2, 128, .inl (fun _ => 0))), (q3, .inl (cs 0, 128, .inl (fun _ => 0))), (q4, .inl (cs 0, 300, .inl (fun _ => 0))), (q5, .inl (cs 0, 8, .inl (fun _ => 0))), (q6, .inl (cs 0, 8, .inl (fun _ => 0)))]) (fun _ => rfl) (fun q6 => ?_)
  refine jj_putF (pc2 := 56) (wd := jp_d X) hC hnm hi_X0_init_X0 0 rfl rfl 5 (by decide) lk_X0_init_11 rfl tyX0 tyX0_ok nmX0 rfl rfl rfl rfl (Nat.le_of_ble_eq_true rfl) [(h0, .inr (0, [.ref q1, .ref q2, .ref q3, .ref q4, .ref q5, .ref q6, .int 0, .int 0, .int 0, .int 0])), (q1, .inl (cs 0, 128, .inl (fun _ => 0))), (q2, .inl (cs 2, 128, .inl (fun _ => 0))), (q3, .inl (cs 0, 128, .inl (fun _ => 0))), (q4, .inl (cs 0, 300, .inl (fun _ => 0))), (q5, .inl (cs 0, 8, .inl (fun _ => 0))), (q6, .inl (cs 0, 8, .inl (fun _ => 0)))] rfl dX0_init_53 rfl ?_
  exact jj_vret hC dX0_init_56 ⟨q1, q2, q3, q4, q5, q6, rfl⟩
theorem lk_X1_init_1 : Cond.methodLink RX1 3 objectInit ∈ wsX1_init := List.mem_of_getElem? (i := 1) rfl
theorem lk_X1_init_2 : Cond.instanceMethod objectInit ∈ wsX1_init := List.mem_of_getElem? (i := 2) rfl
theorem lk_X1_init_3 : Cond.code objectInit ⟨#[0xb1]⟩ 1 none ∈ wsX1_init := List.mem_of_getElem? (i := 3) rfl
theorem lk_X1_init_4 : Cond.arrayClass .int ∈ wsX1_init := List.mem_of_getElem? (i := 4) rfl
theorem hi_X1_init_X1 : ∀ w ∈ u_ws RX1 TX1 8, w ∈ wsX1_init := fun _ h => List.mem_cons_of_mem _ (List.mem_append_right _ h)
theorem lk_X1_init_5 : Cond.fieldLink RX1 9 "PartedHouse$Arrivals" "ways" "[I" ∈ wsX1_init := List.mem_of_getElem? (i := 5) rfl
theorem lk_X1_init_6 : Cond.fieldLink RX1 15 "PartedHouse$Arrivals" "soundWays" "[I" ∈ wsX1_init := List.mem_of_getElem? (i := 6) rfl
theorem lk_X1_init_7 : Cond.arrayClass .boolean ∈ wsX1_init := List.mem_of_getElem? (i := 7) rfl
theorem lk_X1_init_8 : Cond.fieldLink RX1 18 "PartedHouse$Arrivals" "stands" "[Z" ∈ wsX1_init := List.mem_of_getElem? (i := 8) rfl
theorem lk_X1_init_9 : Cond.fieldLink RX1 22 "PartedHouse$Arrivals" "numbers" "[I" ∈ wsX1_init := List.mem_of_getElem? (i := 9) rfl
theorem lk_X1_init_10 : Cond.fieldLink RX1 25 "PartedHouse$Arrivals" "cells" "[I" ∈ wsX1_init := List.mem_of_getElem? (i := 10) rfl
theorem lk_X1_init_11 : Cond.fieldLink RX1 28 "PartedHouse$Arrivals" "says" "[I" ∈ wsX1_init := List.mem_of_getElem? (i := 11) rfl
theorem lk_X1_init_12 : Cond.fieldLink RX1 31 "PartedHouse$Arrivals" "needs" "[I" ∈ wsX1_init := List.mem_of_getElem? (i := 12) rfl
abbrev rm_X1_init : Room := { frames := 1, cells := 7, slots := 216, locals := 40 }
-- the cells behind X1_init
set_option maxHeartbeats 4000000 in
set_option maxRecDepth 100000 in
theorem ki_X1_init (l : Launch) (D : va_G) (cs : Nat → ClassId) (X : va_W) (h0 : Nat) : JV (jp_d X) D vwCl (jt_tys cs) l yX1_init wsX1_init rm_X1_init 7 216 [.ref h0] [(h0, .inr (1, [.null, .null, .null, .null, .null, .null, .null, .int 0]))] (fun w => ∃ (q1 q2 q3 q4 q5 q6 q7 : Nat), w = [(h0, .inr (1, [.ref q1, .ref q2, .ref q3, .ref q4, .ref q5, .ref q6, .ref q7, .int 0])), (q1, .inl (cs 0, 64, .inl (fun _ => 0))), (q2, .inl (cs 0, 64, .inl (fun _ => 0))), (q3, .inl (cs 2, 64, .inl (fun _ => 0))), (q4, .inl (cs 0, 6, .inl (fun _ => 0))), (q5, .inl (cs 0, 6, .inl (fun _ => 0))), (q6, .inl (cs 0, 6, .inl (fun _ => 0))), (q7, .inl (cs 0, 6, .inl (fun _ => 0)))]) := by
  refine jj_metV (cc := cX1_init) (nL := 1) (ret := none) (by decide) rfl (Nat.le_of_ble_eq_true rfl) [(0, .ref h0)] rfl ?_
  intro p e s m args below meth c hC hnm
  refine jj_aload_n (pc2 := 1) hC dX1_init_0 rfl 0 rfl rfl ?_
  refine jj_objInit (pc2 := 4) (rest := []) hC lk_X1_init_1 lk_X1_init_2 lk_X1_init_3 dX1_init_1 (by decide) (Nat.le_of_ble_eq_true rfl) rfl ?_
  refine jj_aload_n (pc2 := 5) hC dX1_init_4 rfl 0 rfl rfl ?_
  refine jj_bipush (pc2 := 7) hC 64 dX1_init_5 (by decide) rfl ?_
  refine jp_newI (pc2 := 9) hC lk_X1_init_4 (by decide) (N := 64) (by decide) (by decide) ⟨by decide, by decide⟩ dX1_init_7 rfl (fun q1 => [(h0, .inr (1, [.null, .null, .null, .null, .null, .null, .null, .int 0])), (q1, .inl (cs 0, 64, .inl (fun _ => 0)))]) (fun _ => rfl) (fun q1 => ?_)
  refine jj_putF (pc2 := 12) (wd := jp_d X) hC hnm hi_X1_init_X1 0 rfl rfl 0 (by decide) lk_X1_init_5 rfl tyX1 tyX1_ok nmX1 rfl rfl rfl rfl (Nat.le_of_ble_eq_true rfl) [(h0, .inr (1, [.ref q1, .null, .null, .null, .null, .null, .null, .int 0])), (q1, .inl (cs 0, 64, .inl (fun _ => 0)))] rfl dX1_init_9 rfl ?_
  refine jj_aload_n (pc2 := 13) hC dX1_init_12 rfl 0 rfl rfl ?_
  refine jj_bipush (pc2 := 15) hC 64 dX1_init_13 (by decide) rfl ?_
  refine jp_newI (pc2 := 17) hC lk_X1_init_4 (by decide) (N := 64) (by decide) (by decide) ⟨by decide, by decide⟩ dX1_init_15 rfl (fun q2 => [(h0, .inr (1, [.ref q1, .null, .null, .null, .null, .null, .null, .int 0])), (q1, .inl (cs 0, 64, .inl (fun _ => 0))), (q2, .inl (cs 0, 64, .inl (fun _ => 0)))]) (fun _ => rfl) (fun q2 => ?_)
  refine jj_putF (pc2 := 20) (wd := jp_d X) hC hnm hi_X1_init_X1 0 rfl rfl 1 (by decide) lk_X1_init_6 rfl tyX1 tyX1_ok nmX1 rfl rfl rfl rfl (Nat.le_of_ble_eq_true rfl) [(h0, .inr (1, [.ref q1, .ref q2, .null, .null, .null, .null, .null, .int 0])), (q1, .inl (cs 0, 64, .inl (fun _ => 0))), (q2, .inl (cs 0, 64, .inl (fun _ => 0)))] rfl dX1_init_17 rfl ?_
  refine jj_aload_n (pc2 := 21) hC dX1_init_20 rfl 0 rfl rfl ?_
  refine jj_bipush (pc2 := 23) hC 64 dX1_init_21 (by decide) rfl ?_
  refine jp_newZ (pc2 := 25) hC lk_X1_init_7 (by decide) (N := 64) (by decide) (by decide) ⟨by decide, by decide⟩ dX1_init_23 rfl (fun q3 => [(h0, .inr (1, [.ref q1, .ref q2, .null, .null, .null, .null, .null, .int 0])), (q1, .inl (cs 0, 64, .inl (fun _ => 0))), (q2, .inl (cs 0, 64, .inl (fun _ => 0))), (q3, .inl (cs 2, 64, .inl (fun _ => 0)))]) (fun _ => rfl) (fun q3 => ?_)
  refine jj_putF (pc2 := 28) (wd := jp_d X) hC hnm hi_X1_init_X1 0 rfl rfl 2 (by decide) lk_X1_init_8 rfl tyX1 tyX1_ok nmX1 rfl rfl rfl rfl (Nat.le_of_ble_eq_true rfl) [(h0, .inr (1, [.ref q1, .ref q2, .ref q3, .null, .null, .null, .null, .int 0])), (q1, .inl (cs 0, 64, .inl (fun _ => 0))), (q2, .inl (cs 0, 64, .inl (fun _ => 0))), (q3, .inl (cs 2, 64, .inl (fun _ => 0)))] rfl dX1_init_25 rfl ?_
  refine jj_aload_n (pc2 := 29) hC dX1_init_28 rfl 0 rfl rfl ?_
  refine jj_bipush (pc2 := 31) hC 6 dX1_init_29 (by decide) rfl ?_
  refine jp_newI (pc2 := 33) hC lk_X1_init_4 (by decide) (N := 6) (by decide) (by decide) ⟨by decide, by decide⟩ dX1_init_31 rfl (fun q4 => [(h0, .inr (1, [.ref q1, .ref q2, .ref q3, .null, .null, .null, .null, .int 0])), (q1, .inl (cs 0, 64, .inl (fun _ => 0))), (q2, .inl (cs 0, 64, .inl (fun _ => 0))), (q3, .inl (cs 2, 64, .inl (fun _ => 0))), (q4, .inl (cs 0, 6, .inl (fun _ => 0)))]) (fun _ => rfl) (fun q4 => ?_)
  refine jj_putF (pc2 := 36) (wd := jp_d X) hC hnm hi_X1_init_X1 0 rfl rfl 3 (by decide) lk_X1_init_9 rfl tyX1 tyX1_ok nmX1 rfl rfl rfl rfl (Nat.le_of_ble_eq_true rfl) [(h0, .inr (1, [.ref q1, .ref q2, .ref q3, .ref q4, .null, .null, .null, .int 0])), (q1, .inl (cs 0, 64, .inl (fun _ => 0))), (q2, .inl (cs 0, 64, .inl (fun _ => 0))), (q3, .inl (cs 2, 64, .inl (fun _ => 0))), (q4, .inl (cs 0, 6, .inl (fun _ => 0)))] rfl dX1_init_33 rfl ?_
  refine jj_aload_n (pc2 := 37) hC dX1_init_36 rfl 0 rfl rfl ?_
  refine jj_bipush (pc2 := 39) hC 6 dX1_init_37 (by decide) rfl ?_
  refine jp_newI (pc2 := 41) hC lk_X1_init_4 (by decide) (N := 6) (by decide) (by decide) ⟨by decide, by decide⟩ dX1_init_39 rfl (fun q5 => [(h0, .inr (1, [.ref q1, .ref q2, .ref q3, .ref q4, .null, .null, .null, .int 0])), (q1, .inl (cs 0, 64, .inl (fun _ => 0))), (q2, .inl (cs 0, 64, .inl (fun _ => 0))), (q3, .inl (cs 2, 64, .inl (fun _ => 0))), (q4, .inl (cs 0, 6, .inl (fun _ => 0))), (q5, .inl (cs 0, 6, .inl (fun _ => 0)))]) (fun _ => rfl) (fun q5 => ?_)
  refine jj_putF (pc2 := 44) (wd := jp_d X) hC hnm hi_X1_init_X1 0 rfl rfl 4 (by decide) lk_X1_init_10 rfl tyX1 tyX1_ok nmX1 rfl rfl rfl rfl (Nat.le_of_ble_eq_true rfl) [(h0, .inr (1, [.ref q1, .ref q2, .ref q3, .ref q4, .ref q5, .null, .null, .int 0])), (q1, .inl (cs 0, 64, .inl (fun _ => 0))), (q2, .inl (cs 0, 64, .inl (fun _ => 0))), (q3, .inl (cs 2, 64, .inl (fun _ => 0))), (q4, .inl (cs 0, 6, .inl (fun _ => 0))), (q5, .inl (cs 0, 6, .inl (fun _ => 0)))] rfl dX1_init_41 rfl ?_
  refine jj_aload_n (pc2 := 45) hC dX1_init_44 rfl 0 rfl rfl ?_
  refine jj_bipush (pc2 := 47) hC 6 dX1_init_45 (by decide) rfl ?_
  refine jp_newI (pc2 := 49) hC lk_X1_init_4 (by decide) (N := 6) (by decide) (by decide) ⟨by decide, by decide⟩ dX1_init_47 rfl (fun q6 => [(h0, .inr (1, [.ref q1, .ref q2, .ref q3, .ref q4, .ref q5, .null, .null, .int 0])), (q1, .inl (cs 0, 64, .inl (fun _ => 0))), (q2, .inl (cs 0, 64, .inl (fun _ => 0))), (q3, .inl (cs 2, 64, .inl (fun _ => 0))), (q4, .inl (cs 0, 6, .inl (fun _ => 0))), (q5, .inl (cs 0, 6, .inl (fun _ => 0))), (q6, .inl (cs 0, 6, .inl (fun _ => 0)))]) (fun _ => rfl) (fun q6 => ?_)
  refine jj_putF (pc2 := 52) (wd := jp_d X) hC hnm hi_X1_init_X1 0 rfl rfl 5 (by decide) lk_X1_init_11 rfl tyX1 tyX1_ok nmX1 rfl rfl rfl rfl (Nat.le_of_ble_eq_true rfl) [(h0, .inr (1, [.ref q1, .ref q2, .ref q3, .ref q4, .ref q5, .ref q6, .null, .int 0])), (q1, .inl (cs 0, 64, .inl (fun _ => 0))), (q2, .inl (cs 0, 64, .inl (fun _ => 0))), (q3, .inl (cs 2, 64, .inl (fun _ => 0))), (q4, .inl (cs 0, 6, .inl (fun _ => 0))), (q5, .inl (cs 0, 6, .inl (fun _ => 0))), (q6, .inl (cs 0, 6, .inl (fun _ => 0)))] rfl dX1_init_49 rfl ?_
  refine jj_aload_n (pc2 := 53) hC dX1_init_52 rfl 0 rfl rfl ?_
  refine jj_bipush (pc2 := 55) hC 6 dX1_init_53 (by decide) rfl ?_
  refine jp_newI (pc2 := 57) hC lk_X1_init_4 (by decide) (N := 6) (by decide) (by decide) ⟨by decide, by decide⟩ dX1_init_55 rfl (fun q7 => [(h0, .inr (1, [.ref q1, .ref q2, .ref q3, .ref q4, .ref q5, .ref q6, .null, .int 0])), (q1, .inl (cs 0, 64, .inl (fun _ => 0))), (q2, .inl (cs 0, 64, .inl (fun _ => 0))), (q3, .inl (cs 2, 64, .inl (fun _ => 0))), (q4, .inl (cs 0, 6, .inl (fun _ => 0))), (q5, .inl (cs 0, 6, .inl (fun _ => 0))), (q6, .inl (cs 0, 6, .inl (fun _ => 0))), (q7, .inl (cs 0, 6, .inl (fun _ => 0)))]) (fun _ => rfl) (fun q7 => ?_)
  refine jj_putF (pc2 := 60) (wd := jp_d X) hC hnm hi_X1_init_X1 0 rfl rfl 6 (by decide) lk_X1_init_12 rfl tyX1 tyX1_ok nmX1 rfl rfl rfl rfl (Nat.le_of_ble_eq_true rfl) [(h0, .inr (1, [.ref q1, .ref q2, .ref q3, .ref q4, .ref q5, .ref q6, .ref q7, .int 0])), (q1, .inl (cs 0, 64, .inl (fun _ => 0))), (q2, .inl (cs 0, 64, .inl (fun _ => 0))), (q3, .inl (cs 2, 64, .inl (fun _ => 0))), (q4, .inl (cs 0, 6, .inl (fun _ => 0))), (q5, .inl (cs 0, 6, .inl (fun _ => 0))), (q6, .inl (cs 0, 6, .inl (fun _ => 0))), (q7, .inl (cs 0, 6, .inl (fun _ => 0)))] rfl dX1_init_57 rfl ?_
  exact jj_vret hC dX1_init_60 ⟨q1, q2, q3, q4, q5, q6, q7, rfl⟩
theorem lk_X3_init_1 : Cond.methodLink RX3 1 objectInit ∈ wsX3_init := List.mem_of_getElem? (i := 1) rfl
theorem lk_X3_init_2 : Cond.instanceMethod objectInit ∈ wsX3_init := List.mem_of_getElem? (i := 2) rfl
theorem lk_X3_init_3 : Cond.code objectInit ⟨#[0xb1]⟩ 1 none ∈ wsX3_init := List.mem_of_getElem? (i := 3) rfl
theorem lk_X3_init_4 : Cond.arrayClass .int ∈ wsX3_init := List.mem_of_getElem? (i := 4) rfl
theorem hi_X3_init_X3 : ∀ w ∈ u_ws RX3 TX3 3, w ∈ wsX3_init := fun _ h => List.mem_cons_of_mem _ (List.mem_append_right _ h)
theorem lk_X3_init_5 : Cond.fieldLink RX3 9 "PartedHouse$HomeSets" "masks" "[I" ∈ wsX3_init := List.mem_of_getElem? (i := 5) rfl
theorem lk_X3_init_6 : Cond.fieldLink RX3 13 "PartedHouse$HomeSets" "acts" "[I" ∈ wsX3_init := List.mem_of_getElem? (i := 6) rfl
abbrev rm_X3_init : Room := { frames := 1, cells := 2, slots := 32, locals := 40 }
-- the cells behind X3_init
set_option maxHeartbeats 4000000 in
set_option maxRecDepth 100000 in
theorem ki_X3_init (l : Launch) (D : va_G) (cs : Nat → ClassId) (X : va_W) (h0 : Nat) : JV (jp_d X) D vwCl (jt_tys cs) l yX3_init wsX3_init rm_X3_init 2 32 [.ref h0] [(h0, .inr (3, [.null, .null, .int 0]))] (fun w => ∃ (q1 q2 : Nat), w = [(h0, .inr (3, [.ref q1, .ref q2, .int 0])), (q1, .inl (cs 0, 16, .inl (fun _ => 0))), (q2, .inl (cs 0, 16, .inl (fun _ => 0)))]) := by
  refine jj_metV (cc := cX3_init) (nL := 1) (ret := none) (by decide) rfl (Nat.le_of_ble_eq_true rfl) [(0, .ref h0)] rfl ?_
  intro p e s m args below meth c hC hnm
  refine jj_aload_n (pc2 := 1) hC dX3_init_0 rfl 0 rfl rfl ?_
  refine jj_objInit (pc2 := 4) (rest := []) hC lk_X3_init_1 lk_X3_init_2 lk_X3_init_3 dX3_init_1 (by decide) (Nat.le_of_ble_eq_true rfl) rfl ?_
  refine jj_aload_n (pc2 := 5) hC dX3_init_4 rfl 0 rfl rfl ?_
  refine jj_bipush (pc2 := 7) hC 16 dX3_init_5 (by decide) rfl ?_
  refine jp_newI (pc2 := 9) hC lk_X3_init_4 (by decide) (N := 16) (by decide) (by decide) ⟨by decide, by decide⟩ dX3_init_7 rfl (fun q1 => [(h0, .inr (3, [.null, .null, .int 0])), (q1, .inl (cs 0, 16, .inl (fun _ => 0)))]) (fun _ => rfl) (fun q1 => ?_)
  refine jj_put (pc2 := 12) (wd := jp_d X) hC hi_X3_init_X3 0 rfl rfl 0 (by decide) lk_X3_init_5 rfl tyX3 tyX3_ok nmX3 rfl rfl rfl (Nat.le_of_ble_eq_true rfl) [(h0, .inr (3, [.ref q1, .null, .int 0])), (q1, .inl (cs 0, 16, .inl (fun _ => 0)))] rfl dX3_init_9 rfl ?_
  refine jj_aload_n (pc2 := 13) hC dX3_init_12 rfl 0 rfl rfl ?_
  refine jj_bipush (pc2 := 15) hC 16 dX3_init_13 (by decide) rfl ?_
  refine jp_newI (pc2 := 17) hC lk_X3_init_4 (by decide) (N := 16) (by decide) (by decide) ⟨by decide, by decide⟩ dX3_init_15 rfl (fun q2 => [(h0, .inr (3, [.ref q1, .null, .int 0])), (q1, .inl (cs 0, 16, .inl (fun _ => 0))), (q2, .inl (cs 0, 16, .inl (fun _ => 0)))]) (fun _ => rfl) (fun q2 => ?_)
  refine jj_put (pc2 := 20) (wd := jp_d X) hC hi_X3_init_X3 0 rfl rfl 1 (by decide) lk_X3_init_6 rfl tyX3 tyX3_ok nmX3 rfl rfl rfl (Nat.le_of_ble_eq_true rfl) [(h0, .inr (3, [.ref q1, .ref q2, .int 0])), (q1, .inl (cs 0, 16, .inl (fun _ => 0))), (q2, .inl (cs 0, 16, .inl (fun _ => 0)))] rfl dX3_init_17 rfl ?_
  exact jj_vret hC dX3_init_20 ⟨q1, q2, rfl⟩
theorem lk_X5_init_1 : Cond.methodLink RX5 3 objectInit ∈ wsX5_init := List.mem_of_getElem? (i := 1) rfl
theorem lk_X5_init_2 : Cond.instanceMethod objectInit ∈ wsX5_init := List.mem_of_getElem? (i := 2) rfl
theorem lk_X5_init_3 : Cond.code objectInit ⟨#[0xb1]⟩ 1 none ∈ wsX5_init := List.mem_of_getElem? (i := 3) rfl
theorem lk_X5_init_4 : Cond.arrayClass .int ∈ wsX5_init := List.mem_of_getElem? (i := 4) rfl
theorem hi_X5_init_X5 : ∀ w ∈ u_ws RX5 TX5 5, w ∈ wsX5_init := fun _ h => List.mem_cons_of_mem _ (List.mem_append_right _ h)
theorem lk_X5_init_5 : Cond.fieldLink RX5 9 "PartedHouse$Laws" "lengths" "[I" ∈ wsX5_init := List.mem_of_getElem? (i := 5) rfl
theorem lk_X5_init_6 : Cond.fieldLink RX5 15 "PartedHouse$Laws" "leasts" "[I" ∈ wsX5_init := List.mem_of_getElem? (i := 6) rfl
theorem lk_X5_init_7 : Cond.fieldLink RX5 18 "PartedHouse$Laws" "cells" "[I" ∈ wsX5_init := List.mem_of_getElem? (i := 7) rfl
theorem lk_X5_init_8 : Cond.fieldLink RX5 21 "PartedHouse$Laws" "factors" "[I" ∈ wsX5_init := List.mem_of_getElem? (i := 8) rfl
abbrev rm_X5_init : Room := { frames := 1, cells := 4, slots := 140, locals := 40 }
-- the cells behind X5_init
set_option maxHeartbeats 4000000 in
set_option maxRecDepth 100000 in
theorem ki_X5_init (l : Launch) (D : va_G) (cs : Nat → ClassId) (X : va_W) (h0 : Nat) : JV (jp_d X) D vwCl (jt_tys cs) l yX5_init wsX5_init rm_X5_init 4 140 [.ref h0] [(h0, .inr (5, [.null, .null, .null, .null, .int 0]))] (fun w => ∃ (q1 q2 q3 q4 : Nat), w = [(h0, .inr (5, [.ref q1, .ref q2, .ref q3, .ref q4, .int 0])), (q1, .inl (cs 0, 10, .inl (fun _ => 0))), (q2, .inl (cs 0, 10, .inl (fun _ => 0))), (q3, .inl (cs 0, 60, .inl (fun _ => 0))), (q4, .inl (cs 0, 60, .inl (fun _ => 0)))]) := by
  refine jj_metV (cc := cX5_init) (nL := 1) (ret := none) (by decide) rfl (Nat.le_of_ble_eq_true rfl) [(0, .ref h0)] rfl ?_
  intro p e s m args below meth c hC hnm
  refine jj_aload_n (pc2 := 1) hC dX5_init_0 rfl 0 rfl rfl ?_
  refine jj_objInit (pc2 := 4) (rest := []) hC lk_X5_init_1 lk_X5_init_2 lk_X5_init_3 dX5_init_1 (by decide) (Nat.le_of_ble_eq_true rfl) rfl ?_
  refine jj_aload_n (pc2 := 5) hC dX5_init_4 rfl 0 rfl rfl ?_
  refine jj_bipush (pc2 := 7) hC 10 dX5_init_5 (by decide) rfl ?_
  refine jp_newI (pc2 := 9) hC lk_X5_init_4 (by decide) (N := 10) (by decide) (by decide) ⟨by decide, by decide⟩ dX5_init_7 rfl (fun q1 => [(h0, .inr (5, [.null, .null, .null, .null, .int 0])), (q1, .inl (cs 0, 10, .inl (fun _ => 0)))]) (fun _ => rfl) (fun q1 => ?_)
  refine jj_putF (pc2 := 12) (wd := jp_d X) hC hnm hi_X5_init_X5 0 rfl rfl 0 (by decide) lk_X5_init_5 rfl tyX5 tyX5_ok nmX5 rfl rfl rfl rfl (Nat.le_of_ble_eq_true rfl) [(h0, .inr (5, [.ref q1, .null, .null, .null, .int 0])), (q1, .inl (cs 0, 10, .inl (fun _ => 0)))] rfl dX5_init_9 rfl ?_
  refine jj_aload_n (pc2 := 13) hC dX5_init_12 rfl 0 rfl rfl ?_
  refine jj_bipush (pc2 := 15) hC 10 dX5_init_13 (by decide) rfl ?_
  refine jp_newI (pc2 := 17) hC lk_X5_init_4 (by decide) (N := 10) (by decide) (by decide) ⟨by decide, by decide⟩ dX5_init_15 rfl (fun q2 => [(h0, .inr (5, [.ref q1, .null, .null, .null, .int 0])), (q1, .inl (cs 0, 10, .inl (fun _ => 0))), (q2, .inl (cs 0, 10, .inl (fun _ => 0)))]) (fun _ => rfl) (fun q2 => ?_)
  refine jj_putF (pc2 := 20) (wd := jp_d X) hC hnm hi_X5_init_X5 0 rfl rfl 1 (by decide) lk_X5_init_6 rfl tyX5 tyX5_ok nmX5 rfl rfl rfl rfl (Nat.le_of_ble_eq_true rfl) [(h0, .inr (5, [.ref q1, .ref q2, .null, .null, .int 0])), (q1, .inl (cs 0, 10, .inl (fun _ => 0))), (q2, .inl (cs 0, 10, .inl (fun _ => 0)))] rfl dX5_init_17 rfl ?_
  refine jj_aload_n (pc2 := 21) hC dX5_init_20 rfl 0 rfl rfl ?_
  refine jj_bipush (pc2 := 23) hC 60 dX5_init_21 (by decide) rfl ?_
  refine jp_newI (pc2 := 25) hC lk_X5_init_4 (by decide) (N := 60) (by decide) (by decide) ⟨by decide, by decide⟩ dX5_init_23 rfl (fun q3 => [(h0, .inr (5, [.ref q1, .ref q2, .null, .null, .int 0])), (q1, .inl (cs 0, 10, .inl (fun _ => 0))), (q2, .inl (cs 0, 10, .inl (fun _ => 0))), (q3, .inl (cs 0, 60, .inl (fun _ => 0)))]) (fun _ => rfl) (fun q3 => ?_)
  refine jj_putF (pc2 := 28) (wd := jp_d X) hC hnm hi_X5_init_X5 0 rfl rfl 2 (by decide) lk_X5_init_7 rfl tyX5 tyX5_ok nmX5 rfl rfl rfl rfl (Nat.le_of_ble_eq_true rfl) [(h0, .inr (5, [.ref q1, .ref q2, .ref q3, .null, .int 0])), (q1, .inl (cs 0, 10, .inl (fun _ => 0))), (q2, .inl (cs 0, 10, .inl (fun _ => 0))), (q3, .inl (cs 0, 60, .inl (fun _ => 0)))] rfl dX5_init_25 rfl ?_
  refine jj_aload_n (pc2 := 29) hC dX5_init_28 rfl 0 rfl rfl ?_
  refine jj_bipush (pc2 := 31) hC 60 dX5_init_29 (by decide) rfl ?_
  refine jp_newI (pc2 := 33) hC lk_X5_init_4 (by decide) (N := 60) (by decide) (by decide) ⟨by decide, by decide⟩ dX5_init_31 rfl (fun q4 => [(h0, .inr (5, [.ref q1, .ref q2, .ref q3, .null, .int 0])), (q1, .inl (cs 0, 10, .inl (fun _ => 0))), (q2, .inl (cs 0, 10, .inl (fun _ => 0))), (q3, .inl (cs 0, 60, .inl (fun _ => 0))), (q4, .inl (cs 0, 60, .inl (fun _ => 0)))]) (fun _ => rfl) (fun q4 => ?_)
  refine jj_putF (pc2 := 36) (wd := jp_d X) hC hnm hi_X5_init_X5 0 rfl rfl 3 (by decide) lk_X5_init_8 rfl tyX5 tyX5_ok nmX5 rfl rfl rfl rfl (Nat.le_of_ble_eq_true rfl) [(h0, .inr (5, [.ref q1, .ref q2, .ref q3, .ref q4, .int 0])), (q1, .inl (cs 0, 10, .inl (fun _ => 0))), (q2, .inl (cs 0, 10, .inl (fun _ => 0))), (q3, .inl (cs 0, 60, .inl (fun _ => 0))), (q4, .inl (cs 0, 60, .inl (fun _ => 0)))] rfl dX5_init_33 rfl ?_
  exact jj_vret hC dX5_init_36 ⟨q1, q2, q3, q4, rfl⟩
theorem lk_X6_init_1 : Cond.methodLink RX6 3 objectInit ∈ wsX6_init := List.mem_of_getElem? (i := 1) rfl
theorem lk_X6_init_2 : Cond.instanceMethod objectInit ∈ wsX6_init := List.mem_of_getElem? (i := 2) rfl
theorem lk_X6_init_3 : Cond.code objectInit ⟨#[0xb1]⟩ 1 none ∈ wsX6_init := List.mem_of_getElem? (i := 3) rfl
theorem lk_X6_init_4 : Cond.arrayClass .int ∈ wsX6_init := List.mem_of_getElem? (i := 4) rfl
theorem hi_X6_init_X6 : ∀ w ∈ u_ws RX6 TX6 5, w ∈ wsX6_init := fun _ h => List.mem_cons_of_mem _ (List.mem_append_right _ h)
theorem lk_X6_init_5 : Cond.fieldLink RX6 11 "PartedHouse$Letters" "addresses" "[I" ∈ wsX6_init := List.mem_of_getElem? (i := 5) rfl
theorem lk_X6_init_6 : Cond.fieldLink RX6 15 "PartedHouse$Letters" "says" "[I" ∈ wsX6_init := List.mem_of_getElem? (i := 6) rfl
theorem lk_X6_init_7 : Cond.fieldLink RX6 18 "PartedHouse$Letters" "waiting" "[I" ∈ wsX6_init := List.mem_of_getElem? (i := 7) rfl
abbrev rm_X6_init : Room := { frames := 1, cells := 3, slots := 104, locals := 40 }
-- the cells behind X6_init
set_option maxHeartbeats 4000000 in
set_option maxRecDepth 100000 in
theorem ki_X6_init (l : Launch) (D : va_G) (cs : Nat → ClassId) (X : va_W) (h0 : Nat) : JV (jp_d X) D vwCl (jt_tys cs) l yX6_init wsX6_init rm_X6_init 3 104 [.ref h0] [(h0, .inr (6, [.null, .null, .null, .int 0, .int 0]))] (fun w => ∃ (q1 q2 q3 : Nat), w = [(h0, .inr (6, [.ref q1, .ref q2, .ref q3, .int 0, .int 0])), (q1, .inl (cs 0, 32, .inl (fun _ => 0))), (q2, .inl (cs 0, 32, .inl (fun _ => 0))), (q3, .inl (cs 0, 40, .inl (fun _ => 0)))]) := by
  refine jj_metV (cc := cX6_init) (nL := 1) (ret := none) (by decide) rfl (Nat.le_of_ble_eq_true rfl) [(0, .ref h0)] rfl ?_
  intro p e s m args below meth c hC hnm
  refine jj_aload_n (pc2 := 1) hC dX6_init_0 rfl 0 rfl rfl ?_
  refine jj_objInit (pc2 := 4) (rest := []) hC lk_X6_init_1 lk_X6_init_2 lk_X6_init_3 dX6_init_1 (by decide) (Nat.le_of_ble_eq_true rfl) rfl ?_
  refine jj_aload_n (pc2 := 5) hC dX6_init_4 rfl 0 rfl rfl ?_
  refine jj_bipush (pc2 := 7) hC 32 dX6_init_5 (by decide) rfl ?_
  refine jp_newI (pc2 := 9) hC lk_X6_init_4 (by decide) (N := 32) (by decide) (by decide) ⟨by decide, by decide⟩ dX6_init_7 rfl (fun q1 => [(h0, .inr (6, [.null, .null, .null, .int 0, .int 0])), (q1, .inl (cs 0, 32, .inl (fun _ => 0)))]) (fun _ => rfl) (fun q1 => ?_)
  refine jj_put (pc2 := 12) (wd := jp_d X) hC hi_X6_init_X6 0 rfl rfl 0 (by decide) lk_X6_init_5 rfl tyX6 tyX6_ok nmX6 rfl rfl rfl (Nat.le_of_ble_eq_true rfl) [(h0, .inr (6, [.ref q1, .null, .null, .int 0, .int 0])), (q1, .inl (cs 0, 32, .inl (fun _ => 0)))] rfl dX6_init_9 rfl ?_
  refine jj_aload_n (pc2 := 13) hC dX6_init_12 rfl 0 rfl rfl ?_
  refine jj_bipush (pc2 := 15) hC 32 dX6_init_13 (by decide) rfl ?_
  refine jp_newI (pc2 := 17) hC lk_X6_init_4 (by decide) (N := 32) (by decide) (by decide) ⟨by decide, by decide⟩ dX6_init_15 rfl (fun q2 => [(h0, .inr (6, [.ref q1, .null, .null, .int 0, .int 0])), (q1, .inl (cs 0, 32, .inl (fun _ => 0))), (q2, .inl (cs 0, 32, .inl (fun _ => 0)))]) (fun _ => rfl) (fun q2 => ?_)
  refine jj_put (pc2 := 20) (wd := jp_d X) hC hi_X6_init_X6 0 rfl rfl 1 (by decide) lk_X6_init_6 rfl tyX6 tyX6_ok nmX6 rfl rfl rfl (Nat.le_of_ble_eq_true rfl) [(h0, .inr (6, [.ref q1, .ref q2, .null, .int 0, .int 0])), (q1, .inl (cs 0, 32, .inl (fun _ => 0))), (q2, .inl (cs 0, 32, .inl (fun _ => 0)))] rfl dX6_init_17 rfl ?_
  refine jj_aload_n (pc2 := 21) hC dX6_init_20 rfl 0 rfl rfl ?_
  refine jj_bipush (pc2 := 23) hC 40 dX6_init_21 (by decide) rfl ?_
  refine jp_newI (pc2 := 25) hC lk_X6_init_4 (by decide) (N := 40) (by decide) (by decide) ⟨by decide, by decide⟩ dX6_init_23 rfl (fun q3 => [(h0, .inr (6, [.ref q1, .ref q2, .null, .int 0, .int 0])), (q1, .inl (cs 0, 32, .inl (fun _ => 0))), (q2, .inl (cs 0, 32, .inl (fun _ => 0))), (q3, .inl (cs 0, 40, .inl (fun _ => 0)))]) (fun _ => rfl) (fun q3 => ?_)
  refine jj_putF (pc2 := 28) (wd := jp_d X) hC hnm hi_X6_init_X6 0 rfl rfl 2 (by decide) lk_X6_init_7 rfl tyX6 tyX6_ok nmX6 rfl rfl rfl rfl (Nat.le_of_ble_eq_true rfl) [(h0, .inr (6, [.ref q1, .ref q2, .ref q3, .int 0, .int 0])), (q1, .inl (cs 0, 32, .inl (fun _ => 0))), (q2, .inl (cs 0, 32, .inl (fun _ => 0))), (q3, .inl (cs 0, 40, .inl (fun _ => 0)))] rfl dX6_init_25 rfl ?_
  exact jj_vret hC dX6_init_28 ⟨q1, q2, q3, rfl⟩
theorem lk_X8_init_1 : Cond.methodLink RX8 3 objectInit ∈ wsX8_init := List.mem_of_getElem? (i := 1) rfl
theorem lk_X8_init_2 : Cond.instanceMethod objectInit ∈ wsX8_init := List.mem_of_getElem? (i := 2) rfl
theorem lk_X8_init_3 : Cond.code objectInit ⟨#[0xb1]⟩ 1 none ∈ wsX8_init := List.mem_of_getElem? (i := 3) rfl
theorem lk_X8_init_4 : Cond.arrayClass .int ∈ wsX8_init := List.mem_of_getElem? (i := 4) rfl
theorem hi_X8_init_X8 : ∀ w ∈ u_ws RX8 TX8 2, w ∈ wsX8_init := fun _ h => List.mem_cons_of_mem _ (List.mem_append_right _ h)
theorem lk_X8_init_5 : Cond.fieldLink RX8 9 "PartedHouse$RingSearch" "path" "[I" ∈ wsX8_init := List.mem_of_getElem? (i := 5) rfl
theorem lk_X8_init_6 : Cond.fieldLink RX8 15 "PartedHouse$RingSearch" "calls" "[I" ∈ wsX8_init := List.mem_of_getElem? (i := 6) rfl
abbrev rm_X8_init : Room := { frames := 1, cells := 2, slots := 12, locals := 40 }
-- the cells behind X8_init
set_option maxHeartbeats 4000000 in
set_option maxRecDepth 100000 in
theorem ki_X8_init (l : Launch) (D : va_G) (cs : Nat → ClassId) (X : va_W) (h0 : Nat) : JV (jp_d X) D vwCl (jt_tys cs) l yX8_init wsX8_init rm_X8_init 2 12 [.ref h0] [(h0, .inr (8, [.null, .null]))] (fun w => ∃ (q1 q2 : Nat), w = [(h0, .inr (8, [.ref q1, .ref q2])), (q1, .inl (cs 0, 6, .inl (fun _ => 0))), (q2, .inl (cs 0, 6, .inl (fun _ => 0)))]) := by
  refine jj_metV (cc := cX8_init) (nL := 1) (ret := none) (by decide) rfl (Nat.le_of_ble_eq_true rfl) [(0, .ref h0)] rfl ?_
  intro p e s m args below meth c hC hnm
  refine jj_aload_n (pc2 := 1) hC dX8_init_0 rfl 0 rfl rfl ?_
  refine jj_objInit (pc2 := 4) (rest := []) hC lk_X8_init_1 lk_X8_init_2 lk_X8_init_3 dX8_init_1 (by decide) (Nat.le_of_ble_eq_true rfl) rfl ?_
  refine jj_aload_n (pc2 := 5) hC dX8_init_4 rfl 0 rfl rfl ?_
  refine jj_bipush (pc2 := 7) hC 6 dX8_init_5 (by decide) rfl ?_
  refine jp_newI (pc2 := 9) hC lk_X8_init_4 (by decide) (N := 6) (by decide) (by decide) ⟨by decide, by decide⟩ dX8_init_7 rfl (fun q1 => [(h0, .inr (8, [.null, .null])), (q1, .inl (cs 0, 6, .inl (fun _ => 0)))]) (fun _ => rfl) (fun q1 => ?_)
  refine jj_putF (pc2 := 12) (wd := jp_d X) hC hnm hi_X8_init_X8 0 rfl rfl 0 (by decide) lk_X8_init_5 rfl tyX8 tyX8_ok nmX8 rfl rfl rfl rfl (Nat.le_of_ble_eq_true rfl) [(h0, .inr (8, [.ref q1, .null])), (q1, .inl (cs 0, 6, .inl (fun _ => 0)))] rfl dX8_init_9 rfl ?_
  refine jj_aload_n (pc2 := 13) hC dX8_init_12 rfl 0 rfl rfl ?_
  refine jj_bipush (pc2 := 15) hC 6 dX8_init_13 (by decide) rfl ?_
  refine jp_newI (pc2 := 17) hC lk_X8_init_4 (by decide) (N := 6) (by decide) (by decide) ⟨by decide, by decide⟩ dX8_init_15 rfl (fun q2 => [(h0, .inr (8, [.ref q1, .null])), (q1, .inl (cs 0, 6, .inl (fun _ => 0))), (q2, .inl (cs 0, 6, .inl (fun _ => 0)))]) (fun _ => rfl) (fun q2 => ?_)
  refine jj_putF (pc2 := 20) (wd := jp_d X) hC hnm hi_X8_init_X8 0 rfl rfl 1 (by decide) lk_X8_init_6 rfl tyX8 tyX8_ok nmX8 rfl rfl rfl rfl (Nat.le_of_ble_eq_true rfl) [(h0, .inr (8, [.ref q1, .ref q2])), (q1, .inl (cs 0, 6, .inl (fun _ => 0))), (q2, .inl (cs 0, 6, .inl (fun _ => 0)))] rfl dX8_init_17 rfl ?_
  exact jj_vret hC dX8_init_20 ⟨q1, q2, rfl⟩
theorem lk_X9_init_1 : Cond.methodLink RX9 3 objectInit ∈ wsX9_init := List.mem_of_getElem? (i := 1) rfl
theorem lk_X9_init_2 : Cond.instanceMethod objectInit ∈ wsX9_init := List.mem_of_getElem? (i := 2) rfl
theorem lk_X9_init_3 : Cond.code objectInit ⟨#[0xb1]⟩ 1 none ∈ wsX9_init := List.mem_of_getElem? (i := 3) rfl
theorem lk_X9_init_4 : Cond.arrayClass .int ∈ wsX9_init := List.mem_of_getElem? (i := 4) rfl
theorem hi_X9_init_X9 : ∀ w ∈ u_ws RX9 TX9 11, w ∈ wsX9_init := fun _ h => List.mem_cons_of_mem _ (List.mem_append_right _ h)
theorem lk_X9_init_5 : Cond.fieldLink RX9 9 "PartedHouse$Text" "sizes" "[I" ∈ wsX9_init := List.mem_of_getElem? (i := 5) rfl
theorem lk_X9_init_6 : Cond.fieldLink RX9 15 "PartedHouse$Text" "homes" "[I" ∈ wsX9_init := List.mem_of_getElem? (i := 6) rfl
theorem lk_X9_init_7 : Cond.fieldLink RX9 18 "PartedHouse$Text" "owners" "[I" ∈ wsX9_init := List.mem_of_getElem? (i := 7) rfl
theorem lk_X9_init_8 : Cond.fieldLink RX9 21 "PartedHouse$Text" "lengths" "[I" ∈ wsX9_init := List.mem_of_getElem? (i := 8) rfl
theorem lk_X9_init_9 : Cond.fieldLink RX9 24 "PartedHouse$Text" "ops" "[I" ∈ wsX9_init := List.mem_of_getElem? (i := 9) rfl
theorem lk_X9_init_10 : Cond.fieldLink RX9 27 "PartedHouse$Text" "xs" "[I" ∈ wsX9_init := List.mem_of_getElem? (i := 10) rfl
theorem lk_X9_init_11 : Cond.fieldLink RX9 30 "PartedHouse$Text" "ys" "[I" ∈ wsX9_init := List.mem_of_getElem? (i := 11) rfl
theorem lk_X9_init_12 : Cond.fieldLink RX9 33 "PartedHouse$Text" "ties" "[I" ∈ wsX9_init := List.mem_of_getElem? (i := 12) rfl
abbrev rm_X9_init : Room := { frames := 1, cells := 8, slots := 2446, locals := 40 }
-- the cells behind X9_init
set_option maxHeartbeats 4000000 in
set_option maxRecDepth 100000 in
theorem ki_X9_init (l : Launch) (D : va_G) (cs : Nat → ClassId) (X : va_W) (h0 : Nat) : JV (jp_d X) D vwCl (jt_tys cs) l yX9_init wsX9_init rm_X9_init 8 2446 [.ref h0] [(h0, .inr (9, [.null, .null, .null, .null, .null, .null, .null, .null, .int 0, .int 0, .int 0]))] (fun w => ∃ (q1 q2 q3 q4 q5 q6 q7 q8 : Nat), w = [(h0, .inr (9, [.ref q1, .ref q2, .ref q3, .ref q4, .ref q5, .ref q6, .ref q7, .ref q8, .int 0, .int 0, .int 0])), (q1, .inl (cs 0, 10, .inl (fun _ => 0))), (q2, .inl (cs 0, 16, .inl (fun _ => 0))), (q3, .inl (cs 0, 40, .inl (fun _ => 0))), (q4, .inl (cs 0, 40, .inl (fun _ => 0))), (q5, .inl (cs 0, 640, .inl (fun _ => 0))), (q6, .inl (cs 0, 640, .inl (fun _ => 0))), (q7, .inl (cs 0, 640, .inl (fun _ => 0))), (q8, .inl (cs 0, 420, .inl (fun _ => 0)))]) := by
  refine jj_metV (cc := cX9_init) (nL := 1) (ret := none) (by decide) rfl (Nat.le_of_ble_eq_true rfl) [(0, .ref h0)] rfl ?_
  intro p e s m args below meth c hC hnm
  refine jj_aload_n (pc2 := 1) hC dX9_init_0 rfl 0 rfl rfl ?_
  refine jj_objInit (pc2 := 4) (rest := []) hC lk_X9_init_1 lk_X9_init_2 lk_X9_init_3 dX9_init_1 (by decide) (Nat.le_of_ble_eq_true rfl) rfl ?_
  refine jj_aload_n (pc2 := 5) hC dX9_init_4 rfl 0 rfl rfl ?_
  refine jj_bipush (pc2 := 7) hC 10 dX9_init_5 (by decide) rfl ?_
  refine jp_newI (pc2 := 9) hC lk_X9_init_4 (by decide) (N := 10) (by decide) (by decide) ⟨by decide, by decide⟩ dX9_init_7 rfl (fun q1 => [(h0, .inr (9, [.null, .null, .null, .null, .null, .null, .null, .null, .int 0, .int 0, .int 0])), (q1, .inl (cs 0, 10, .inl (fun _ => 0)))]) (fun _ => rfl) (fun q1 => ?_)
  refine jj_putF (pc2 := 12) (wd := jp_d X) hC hnm hi_X9_init_X9 0 rfl rfl 0 (by decide) lk_X9_init_5 rfl tyX9 tyX9_ok nmX9 rfl rfl rfl rfl (Nat.le_of_ble_eq_true rfl) [(h0, .inr (9, [.ref q1, .null, .null, .null, .null, .null, .null, .null, .int 0, .int 0, .int 0])), (q1, .inl (cs 0, 10, .inl (fun _ => 0)))] rfl dX9_init_9 rfl ?_
  refine jj_aload_n (pc2 := 13) hC dX9_init_12 rfl 0 rfl rfl ?_
  refine jj_bipush (pc2 := 15) hC 16 dX9_init_13 (by decide) rfl ?_
  refine jp_newI (pc2 := 17) hC lk_X9_init_4 (by decide) (N := 16) (by decide) (by decide) ⟨by decide, by decide⟩ dX9_init_15 rfl (fun q2 => [(h0, .inr (9, [.ref q1, .null, .null, .null, .null, .null, .null, .null, .int 0, .int 0, .int 0])), (q1, .inl (cs 0, 10, .inl (fun _ => 0))), (q2, .inl (cs 0, 16, .inl (fun _ => 0)))]) (fun _ => rfl) (fun q2 => ?_)
  refine jj_putF (pc2 := 20) (wd := jp_d X) hC hnm hi_X9_init_X9 0 rfl rfl 1 (by decide) lk_X9_init_6 rfl tyX9 tyX9_ok nmX9 rfl rfl rfl rfl (Nat.le_of_ble_eq_true rfl) [(h0, .inr (9, [.ref q1, .ref q2, .null, .null, .null, .null, .null, .null, .int 0, .int 0, .int 0])), (q1, .inl (cs 0, 10, .inl (fun _ => 0))), (q2, .inl (cs 0, 16, .inl (fun _ => 0)))] rfl dX9_init_17 rfl ?_
  refine jj_aload_n (pc2 := 21) hC dX9_init_20 rfl 0 rfl rfl ?_
  refine jj_bipush (pc2 := 23) hC 40 dX9_init_21 (by decide) rfl ?_
  refine jp_newI (pc2 := 25) hC lk_X9_init_4 (by decide) (N := 40) (by decide) (by decide) ⟨by decide, by decide⟩ dX9_init_23 rfl (fun q3 => [(h0, .inr (9, [.ref q1, .ref q2, .null, .null, .null, .null, .null, .null, .int 0, .int 0, .int 0])), (q1, .inl (cs 0, 10, .inl (fun _ => 0))), (q2, .inl (cs 0, 16, .inl (fun _ => 0))), (q3, .inl (cs 0, 40, .inl (fun _ => 0)))]) (fun _ => rfl) (fun q3 => ?_)
  refine jj_putF (pc2 := 28) (wd := jp_d X) hC hnm hi_X9_init_X9 0 rfl rfl 2 (by decide) lk_X9_init_7 rfl tyX9 tyX9_ok nmX9 rfl rfl rfl rfl (Nat.le_of_ble_eq_true rfl) [(h0, .inr (9, [.ref q1, .ref q2, .ref q3, .null, .null, .null, .null, .null, .int 0, .int 0, .int 0])), (q1, .inl (cs 0, 10, .inl (fun _ => 0))), (q2, .inl (cs 0, 16, .inl (fun _ => 0))), (q3, .inl (cs 0, 40, .inl (fun _ => 0)))] rfl dX9_init_25 rfl ?_
  refine jj_aload_n (pc2 := 29) hC dX9_init_28 rfl 0 rfl rfl ?_
  refine jj_bipush (pc2 := 31) hC 40 dX9_init_29 (by decide) rfl ?_
  refine jp_newI (pc2 := 33) hC lk_X9_init_4 (by decide) (N := 40) (by decide) (by decide) ⟨by decide, by decide⟩ dX9_init_31 rfl (fun q4 => [(h0, .inr (9, [.ref q1, .ref q2, .ref q3, .null, .null, .null, .null, .null, .int 0, .int 0, .int 0])), (q1, .inl (cs 0, 10, .inl (fun _ => 0))), (q2, .inl (cs 0, 16, .inl (fun _ => 0))), (q3, .inl (cs 0, 40, .inl (fun _ => 0))), (q4, .inl (cs 0, 40, .inl (fun _ => 0)))]) (fun _ => rfl) (fun q4 => ?_)
  refine jj_putF (pc2 := 36) (wd := jp_d X) hC hnm hi_X9_init_X9 0 rfl rfl 3 (by decide) lk_X9_init_8 rfl tyX9 tyX9_ok nmX9 rfl rfl rfl rfl (Nat.le_of_ble_eq_true rfl) [(h0, .inr (9, [.ref q1, .ref q2, .ref q3, .ref q4, .null, .null, .null, .null, .int 0, .int 0, .int 0])), (q1, .inl (cs 0, 10, .inl (fun _ => 0))), (q2, .inl (cs 0, 16, .inl (fun _ => 0))), (q3, .inl (cs 0, 40, .inl (fun _ => 0))), (q4, .inl (cs 0, 40, .inl (fun _ => 0)))] rfl dX9_init_33 rfl ?_
  refine jj_aload_n (pc2 := 37) hC dX9_init_36 rfl 0 rfl rfl ?_
  refine jj_sipush (pc2 := 40) hC 640 dX9_init_37 (by decide) rfl ?_
  refine jp_newI (pc2 := 42) hC lk_X9_init_4 (by decide) (N := 640) (by decide) (by decide) ⟨by decide, by decide⟩ dX9_init_40 rfl (fun q5 => [(h0, .inr (9, [.ref q1, .ref q2, .ref q3, .ref q4, .null, .null, .null, .null, .int 0, .int 0, .int 0])), (q1, .inl (cs 0, 10, .inl (fun _ => 0))), (q2, .inl (cs 0, 16, .inl (fun _ => 0))), (q3, .inl (cs 0, 40, .inl (fun _ => 0))), (q4, .inl (cs 0, 40, .inl (fun _ => 0))), (q5, .inl (cs 0, 640, .inl (fun _ => 0)))]) (fun _ => rfl) (fun q5 => ?_)
  refine jj_putF (pc2 := 45) (wd := jp_d X) hC hnm hi_X9_init_X9 0 rfl rfl 4 (by decide) lk_X9_init_9 rfl tyX9 tyX9_ok nmX9 rfl rfl rfl rfl (Nat.le_of_ble_eq_true rfl) [(h0, .inr (9, [.ref q1, .ref q2, .ref q3, .ref q4, .ref q5, .null, .null, .null, .int 0, .int 0, .int 0])), (q1, .inl (cs 0, 10, .inl (fun _ => 0))), (q2, .inl (cs 0, 16, .inl (fun _ => 0))), (q3, .inl (cs 0, 40, .inl (fun _ => 0))), (q4, .inl (cs 0, 40, .inl (fun _ => 0))), (q5, .inl (cs 0, 640, .inl (fun _ => 0)))] rfl dX9_init_42 rfl ?_
  refine jj_aload_n (pc2 := 46) hC dX9_init_45 rfl 0 rfl rfl ?_
  refine jj_sipush (pc2 := 49) hC 640 dX9_init_46 (by decide) rfl ?_
  refine jp_newI (pc2 := 51) hC lk_X9_init_4 (by decide) (N := 640) (by decide) (by decide) ⟨by decide, by decide⟩ dX9_init_49 rfl (fun q6 => [(h0, .inr (9, [.ref q1, .ref q2, .ref q3, .ref q4, .ref q5, .null, .null, .null, .int 0, .int 0, .int 0])), (q1, .inl (cs 0, 10, .inl (fun _ => 0))), (q2, .inl (cs 0, 16, .inl (fun _ => 0))), (q3, .inl (cs 0, 40, .inl (fun _ => 0))), (q4, .inl (cs 0, 40, .inl (fun _ => 0))), (q5, .inl (cs 0, 640, .inl (fun _ => 0))), (q6, .inl (cs 0, 640, .inl (fun _ => 0)))]) (fun _ => rfl) (fun q6 => ?_)
  refine jj_putF (pc2 := 54) (wd := jp_d X) hC hnm hi_X9_init_X9 0 rfl rfl 5 (by decide) lk_X9_init_10 rfl tyX9 tyX9_ok nmX9 rfl rfl rfl rfl (Nat.le_of_ble_eq_true rfl) [(h0, .inr (9, [.ref q1, .ref q2, .ref q3, .ref q4, .ref q5, .ref q6, .null, .null, .int 0, .int 0, .int 0])), (q1, .inl (cs 0, 10, .inl (fun _ => 0))), (q2, .inl (cs 0, 16, .inl (fun _ => 0))), (q3, .inl (cs 0, 40, .inl (fun _ => 0))), (q4, .inl (cs 0, 40, .inl (fun _ => 0))), (q5, .inl (cs 0, 640, .inl (fun _ => 0))), (q6, .inl (cs 0, 640, .inl (fun _ => 0)))] rfl dX9_init_51 rfl ?_
  refine jj_aload_n (pc2 := 55) hC dX9_init_54 rfl 0 rfl rfl ?_
  refine jj_sipush (pc2 := 58) hC 640 dX9_init_55 (by decide) rfl ?_
  refine jp_newI (pc2 := 60) hC lk_X9_init_4 (by decide) (N := 640) (by decide) (by decide) ⟨by decide, by decide⟩ dX9_init_58 rfl (fun q7 => [(h0, .inr (9, [.ref q1, .ref q2, .ref q3, .ref q4, .ref q5, .ref q6, .null, .null, .int 0, .int 0, .int 0])), (q1, .inl (cs 0, 10, .inl (fun _ => 0))), (q2, .inl (cs 0, 16, .inl (fun _ => 0))), (q3, .inl (cs 0, 40, .inl (fun _ => 0))), (q4, .inl (cs 0, 40, .inl (fun _ => 0))), (q5, .inl (cs 0, 640, .inl (fun _ => 0))), (q6, .inl (cs 0, 640, .inl (fun _ => 0))), (q7, .inl (cs 0, 640, .inl (fun _ => 0)))]) (fun _ => rfl) (fun q7 => ?_)
  refine jj_putF (pc2 := 63) (wd := jp_d X) hC hnm hi_X9_init_X9 0 rfl rfl 6 (by decide) lk_X9_init_11 rfl tyX9 tyX9_ok nmX9 rfl rfl rfl rfl (Nat.le_of_ble_eq_true rfl) [(h0, .inr (9, [.ref q1, .ref q2, .ref q3, .ref q4, .ref q5, .ref q6, .ref q7, .null, .int 0, .int 0, .int 0])), (q1, .inl (cs 0, 10, .inl (fun _ => 0))), (q2, .inl (cs 0, 16, .inl (fun _ => 0))), (q3, .inl (cs 0, 40, .inl (fun _ => 0))), (q4, .inl (cs 0, 40, .inl (fun _ => 0))), (q5, .inl (cs 0, 640, .inl (fun _ => 0))), (q6, .inl (cs 0, 640, .inl (fun _ => 0))), (q7, .inl (cs 0, 640, .inl (fun _ => 0)))] rfl dX9_init_60 rfl ?_
  refine jj_aload_n (pc2 := 64) hC dX9_init_63 rfl 0 rfl rfl ?_
  refine jj_sipush (pc2 := 67) hC 420 dX9_init_64 (by decide) rfl ?_
  refine jp_newI (pc2 := 69) hC lk_X9_init_4 (by decide) (N := 420) (by decide) (by decide) ⟨by decide, by decide⟩ dX9_init_67 rfl (fun q8 => [(h0, .inr (9, [.ref q1, .ref q2, .ref q3, .ref q4, .ref q5, .ref q6, .ref q7, .null, .int 0, .int 0, .int 0])), (q1, .inl (cs 0, 10, .inl (fun _ => 0))), (q2, .inl (cs 0, 16, .inl (fun _ => 0))), (q3, .inl (cs 0, 40, .inl (fun _ => 0))), (q4, .inl (cs 0, 40, .inl (fun _ => 0))), (q5, .inl (cs 0, 640, .inl (fun _ => 0))), (q6, .inl (cs 0, 640, .inl (fun _ => 0))), (q7, .inl (cs 0, 640, .inl (fun _ => 0))), (q8, .inl (cs 0, 420, .inl (fun _ => 0)))]) (fun _ => rfl) (fun q8 => ?_)
  refine jj_putF (pc2 := 72) (wd := jp_d X) hC hnm hi_X9_init_X9 0 rfl rfl 7 (by decide) lk_X9_init_12 rfl tyX9 tyX9_ok nmX9 rfl rfl rfl rfl (Nat.le_of_ble_eq_true rfl) [(h0, .inr (9, [.ref q1, .ref q2, .ref q3, .ref q4, .ref q5, .ref q6, .ref q7, .ref q8, .int 0, .int 0, .int 0])), (q1, .inl (cs 0, 10, .inl (fun _ => 0))), (q2, .inl (cs 0, 16, .inl (fun _ => 0))), (q3, .inl (cs 0, 40, .inl (fun _ => 0))), (q4, .inl (cs 0, 40, .inl (fun _ => 0))), (q5, .inl (cs 0, 640, .inl (fun _ => 0))), (q6, .inl (cs 0, 640, .inl (fun _ => 0))), (q7, .inl (cs 0, 640, .inl (fun _ => 0))), (q8, .inl (cs 0, 420, .inl (fun _ => 0)))] rfl dX9_init_69 rfl ?_
  exact jj_vret hC dX9_init_72 ⟨q1, q2, q3, q4, q5, q6, q7, q8, rfl⟩
theorem lk_X2_init_1 : Cond.methodLink RX2 3 objectInit ∈ wsX2_init := List.mem_of_getElem? (i := 1) rfl
theorem lk_X2_init_2 : Cond.instanceMethod objectInit ∈ wsX2_init := List.mem_of_getElem? (i := 2) rfl
theorem lk_X2_init_3 : Cond.code objectInit ⟨#[0xb1]⟩ 1 none ∈ wsX2_init := List.mem_of_getElem? (i := 3) rfl
theorem lk_X2_init_4 : Cond.arrayClass .int ∈ wsX2_init := List.mem_of_getElem? (i := 4) rfl
theorem hi_X2_init_X2 : ∀ w ∈ u_ws RX2 TX2 14, w ∈ wsX2_init := fun _ h => List.mem_cons_of_mem _ (List.mem_append_right _ h)
theorem lk_X2_init_5 : Cond.fieldLink RX2 9 "PartedHouse$Cutter" "members" "[I" ∈ wsX2_init := List.mem_of_getElem? (i := 5) rfl
theorem lk_X2_init_6 : Cond.fieldLink RX2 15 "PartedHouse$Cutter" "loads" "[I" ∈ wsX2_init := List.mem_of_getElem? (i := 6) rfl
theorem lk_X2_init_7 : Cond.fieldLink RX2 18 "PartedHouse$Cutter" "rooms" "[I" ∈ wsX2_init := List.mem_of_getElem? (i := 7) rfl
theorem lk_X2_init_8 : Cond.fieldLink RX2 21 "PartedHouse$Cutter" "foundRooms" "[I" ∈ wsX2_init := List.mem_of_getElem? (i := 8) rfl
theorem lk_X2_init_9 : Cond.fieldLink RX2 24 "PartedHouse$Cutter" "togetherAhead" "[I" ∈ wsX2_init := List.mem_of_getElem? (i := 9) rfl
theorem lk_X2_init_10 : Cond.fieldLink RX2 27 "PartedHouse$Cutter" "apartAhead" "[I" ∈ wsX2_init := List.mem_of_getElem? (i := 10) rfl
theorem lk_X2_init_11 : Cond.fieldLink RX2 30 "PartedHouse$Cutter" "keptRooms" "[I" ∈ wsX2_init := List.mem_of_getElem? (i := 11) rfl
theorem lk_X2_init_12 : Cond.fieldLink RX2 33 "PartedHouse$Cutter" "text" "LPartedHouse$Text;" ∈ wsX2_init := List.mem_of_getElem? (i := 12) rfl
theorem lk_X2_init_13 : Cond.fieldLink RX2 37 "PartedHouse$Cutter" "prices" "LPartedHouse$Prices;" ∈ wsX2_init := List.mem_of_getElem? (i := 13) rfl
abbrev rm_X2_init : Room := { frames := 1, cells := 7, slots := 57, locals := 40 }
-- the cells behind X2_init
set_option maxHeartbeats 4000000 in
set_option maxRecDepth 100000 in
theorem ki_X2_init (l : Launch) (D : va_G) (cs : Nat → ClassId) (X : va_W) (h0 : Nat) (ht : Nat) (hp : Nat) : JV (jp_d X) D vwCl (jt_tys cs) l yX2_init wsX2_init rm_X2_init 7 57 [.ref h0, .ref ht, .ref hp] [(h0, .inr (2, [.null, .null, .null, .null, .null, .null, .null, .null, .int 0, .int 0, .int 0, .null, .int 0, .long 0]))] (fun w => ∃ (q1 q2 q3 q4 q5 q6 q7 : Nat), w = [(h0, .inr (2, [.ref ht, .ref hp, .ref q1, .ref q2, .ref q3, .ref q4, .ref q5, .ref q6, .int 0, .int 0, .int 0, .ref q7, .int 0, .long 0])), (q1, .inl (cs 0, 6, .inl (fun _ => 0))), (q2, .inl (cs 0, 6, .inl (fun _ => 0))), (q3, .inl (cs 0, 9, .inl (fun _ => 0))), (q4, .inl (cs 0, 9, .inl (fun _ => 0))), (q5, .inl (cs 0, 9, .inl (fun _ => 0))), (q6, .inl (cs 0, 9, .inl (fun _ => 0))), (q7, .inl (cs 0, 9, .inl (fun _ => 0)))]) := by
  refine jj_metV (cc := cX2_init) (nL := 3) (ret := none) (by decide) rfl (Nat.le_of_ble_eq_true rfl) [(0, .ref h0), (1, .ref ht), (2, .ref hp)] rfl ?_
  intro p e s m args below meth c hC hnm
  refine jj_aload_n (pc2 := 1) hC dX2_init_0 rfl 0 rfl rfl ?_
  refine jj_objInit (pc2 := 4) (rest := []) hC lk_X2_init_1 lk_X2_init_2 lk_X2_init_3 dX2_init_1 (by decide) (Nat.le_of_ble_eq_true rfl) rfl ?_
  refine jj_aload_n (pc2 := 5) hC dX2_init_4 rfl 0 rfl rfl ?_
  refine jj_bipush (pc2 := 7) hC 6 dX2_init_5 (by decide) rfl ?_
  refine jp_newI (pc2 := 9) hC lk_X2_init_4 (by decide) (N := 6) (by decide) (by decide) ⟨by decide, by decide⟩ dX2_init_7 rfl (fun q1 => [(h0, .inr (2, [.null, .null, .null, .null, .null, .null, .null, .null, .int 0, .int 0, .int 0, .null, .int 0, .long 0])), (q1, .inl (cs 0, 6, .inl (fun _ => 0)))]) (fun _ => rfl) (fun q1 => ?_)
  refine jj_putF (pc2 := 12) (wd := jp_d X) hC hnm hi_X2_init_X2 0 rfl rfl 2 (by decide) lk_X2_init_5 rfl tyX2 tyX2_ok nmX2 rfl rfl rfl rfl (Nat.le_of_ble_eq_true rfl) [(h0, .inr (2, [.null, .null, .ref q1, .null, .null, .null, .null, .null, .int 0, .int 0, .int 0, .null, .int 0, .long 0])), (q1, .inl (cs 0, 6, .inl (fun _ => 0)))] rfl dX2_init_9 rfl ?_
  refine jj_aload_n (pc2 := 13) hC dX2_init_12 rfl 0 rfl rfl ?_
  refine jj_bipush (pc2 := 15) hC 6 dX2_init_13 (by decide) rfl ?_
  refine jp_newI (pc2 := 17) hC lk_X2_init_4 (by decide) (N := 6) (by decide) (by decide) ⟨by decide, by decide⟩ dX2_init_15 rfl (fun q2 => [(h0, .inr (2, [.null, .null, .ref q1, .null, .null, .null, .null, .null, .int 0, .int 0, .int 0, .null, .int 0, .long 0])), (q1, .inl (cs 0, 6, .inl (fun _ => 0))), (q2, .inl (cs 0, 6, .inl (fun _ => 0)))]) (fun _ => rfl) (fun q2 => ?_)
  refine jj_putF (pc2 := 20) (wd := jp_d X) hC hnm hi_X2_init_X2 0 rfl rfl 3 (by decide) lk_X2_init_6 rfl tyX2 tyX2_ok nmX2 rfl rfl rfl rfl (Nat.le_of_ble_eq_true rfl) [(h0, .inr (2, [.null, .null, .ref q1, .ref q2, .null, .null, .null, .null, .int 0, .int 0, .int 0, .null, .int 0, .long 0])), (q1, .inl (cs 0, 6, .inl (fun _ => 0))), (q2, .inl (cs 0, 6, .inl (fun _ => 0)))] rfl dX2_init_17 rfl ?_
  refine jj_aload_n (pc2 := 21) hC dX2_init_20 rfl 0 rfl rfl ?_
  refine jj_bipush (pc2 := 23) hC 9 dX2_init_21 (by decide) rfl ?_
  refine jp_newI (pc2 := 25) hC lk_X2_init_4 (by decide) (N := 9) (by decide) (by decide) ⟨by decide, by decide⟩ dX2_init_23 rfl (fun q3 => [(h0, .inr (2, [.null, .null, .ref q1, .ref q2, .null, .null, .null, .null, .int 0, .int 0, .int 0, .null, .int 0, .long 0])), (q1, .inl (cs 0, 6, .inl (fun _ => 0))), (q2, .inl (cs 0, 6, .inl (fun _ => 0))), (q3, .inl (cs 0, 9, .inl (fun _ => 0)))]) (fun _ => rfl) (fun q3 => ?_)
  refine jj_putF (pc2 := 28) (wd := jp_d X) hC hnm hi_X2_init_X2 0 rfl rfl 4 (by decide) lk_X2_init_7 rfl tyX2 tyX2_ok nmX2 rfl rfl rfl rfl (Nat.le_of_ble_eq_true rfl) [(h0, .inr (2, [.null, .null, .ref q1, .ref q2, .ref q3, .null, .null, .null, .int 0, .int 0, .int 0, .null, .int 0, .long 0])), (q1, .inl (cs 0, 6, .inl (fun _ => 0))), (q2, .inl (cs 0, 6, .inl (fun _ => 0))), (q3, .inl (cs 0, 9, .inl (fun _ => 0)))] rfl dX2_init_25 rfl ?_
  refine jj_aload_n (pc2 := 29) hC dX2_init_28 rfl 0 rfl rfl ?_
  refine jj_bipush (pc2 := 31) hC 9 dX2_init_29 (by decide) rfl ?_
  refine jp_newI (pc2 := 33) hC lk_X2_init_4 (by decide) (N := 9) (by decide) (by decide) ⟨by decide, by decide⟩ dX2_init_31 rfl (fun q4 => [(h0, .inr (2, [.null, .null, .ref q1, .ref q2, .ref q3, .null, .null, .null, .int 0, .int 0, .int 0, .null, .int 0, .long 0])), (q1, .inl (cs 0, 6, .inl (fun _ => 0))), (q2, .inl (cs 0, 6, .inl (fun _ => 0))), (q3, .inl (cs 0, 9, .inl (fun _ => 0))), (q4, .inl (cs 0, 9, .inl (fun _ => 0)))]) (fun _ => rfl) (fun q4 => ?_)
  refine jj_putF (pc2 := 36) (wd := jp_d X) hC hnm hi_X2_init_X2 0 rfl rfl 5 (by decide) lk_X2_init_8 rfl tyX2 tyX2_ok nmX2 rfl rfl rfl rfl (Nat.le_of_ble_eq_true rfl) [(h0, .inr (2, [.null, .null, .ref q1, .ref q2, .ref q3, .ref q4, .null, .null, .int 0, .int 0, .int 0, .null, .int 0, .long 0])), (q1, .inl (cs 0, 6, .inl (fun _ => 0))), (q2, .inl (cs 0, 6, .inl (fun _ => 0))), (q3, .inl (cs 0, 9, .inl (fun _ => 0))), (q4, .inl (cs 0, 9, .inl (fun _ => 0)))] rfl dX2_init_33 rfl ?_
  refine jj_aload_n (pc2 := 37) hC dX2_init_36 rfl 0 rfl rfl ?_
  refine jj_bipush (pc2 := 39) hC 9 dX2_init_37 (by decide) rfl ?_
  refine jp_newI (pc2 := 41) hC lk_X2_init_4 (by decide) (N := 9) (by decide) (by decide) ⟨by decide, by decide⟩ dX2_init_39 rfl (fun q5 => [(h0, .inr (2, [.null, .null, .ref q1, .ref q2, .ref q3, .ref q4, .null, .null, .int 0, .int 0, .int 0, .null, .int 0, .long 0])), (q1, .inl (cs 0, 6, .inl (fun _ => 0))), (q2, .inl (cs 0, 6, .inl (fun _ => 0))), (q3, .inl (cs 0, 9, .inl (fun _ => 0))), (q4, .inl (cs 0, 9, .inl (fun _ => 0))), (q5, .inl (cs 0, 9, .inl (fun _ => 0)))]) (fun _ => rfl) (fun q5 => ?_)
  refine jj_putF (pc2 := 44) (wd := jp_d X) hC hnm hi_X2_init_X2 0 rfl rfl 6 (by decide) lk_X2_init_9 rfl tyX2 tyX2_ok nmX2 rfl rfl rfl rfl (Nat.le_of_ble_eq_true rfl) [(h0, .inr (2, [.null, .null, .ref q1, .ref q2, .ref q3, .ref q4, .ref q5, .null, .int 0, .int 0, .int 0, .null, .int 0, .long 0])), (q1, .inl (cs 0, 6, .inl (fun _ => 0))), (q2, .inl (cs 0, 6, .inl (fun _ => 0))), (q3, .inl (cs 0, 9, .inl (fun _ => 0))), (q4, .inl (cs 0, 9, .inl (fun _ => 0))), (q5, .inl (cs 0, 9, .inl (fun _ => 0)))] rfl dX2_init_41 rfl ?_
  refine jj_aload_n (pc2 := 45) hC dX2_init_44 rfl 0 rfl rfl ?_
  refine jj_bipush (pc2 := 47) hC 9 dX2_init_45 (by decide) rfl ?_
  refine jp_newI (pc2 := 49) hC lk_X2_init_4 (by decide) (N := 9) (by decide) (by decide) ⟨by decide, by decide⟩ dX2_init_47 rfl (fun q6 => [(h0, .inr (2, [.null, .null, .ref q1, .ref q2, .ref q3, .ref q4, .ref q5, .null, .int 0, .int 0, .int 0, .null, .int 0, .long 0])), (q1, .inl (cs 0, 6, .inl (fun _ => 0))), (q2, .inl (cs 0, 6, .inl (fun _ => 0))), (q3, .inl (cs 0, 9, .inl (fun _ => 0))), (q4, .inl (cs 0, 9, .inl (fun _ => 0))), (q5, .inl (cs 0, 9, .inl (fun _ => 0))), (q6, .inl (cs 0, 9, .inl (fun _ => 0)))]) (fun _ => rfl) (fun q6 => ?_)
  refine jj_putF (pc2 := 52) (wd := jp_d X) hC hnm hi_X2_init_X2 0 rfl rfl 7 (by decide) lk_X2_init_10 rfl tyX2 tyX2_ok nmX2 rfl rfl rfl rfl (Nat.le_of_ble_eq_true rfl) [(h0, .inr (2, [.null, .null, .ref q1, .ref q2, .ref q3, .ref q4, .ref q5, .ref q6, .int 0, .int 0, .int 0, .null, .int 0, .long 0])), (q1, .inl (cs 0, 6, .inl (fun _ => 0))), (q2, .inl (cs 0, 6, .inl (fun _ => 0))), (q3, .inl (cs 0, 9, .inl (fun _ => 0))), (q4, .inl (cs 0, 9, .inl (fun _ => 0))), (q5, .inl (cs 0, 9, .inl (fun _ => 0))), (q6, .inl (cs 0, 9, .inl (fun _ => 0)))] rfl dX2_init_49 rfl ?_
  refine jj_aload_n (pc2 := 53) hC dX2_init_52 rfl 0 rfl rfl ?_
  refine jj_bipush (pc2 := 55) hC 9 dX2_init_53 (by decide) rfl ?_
  refine jp_newI (pc2 := 57) hC lk_X2_init_4 (by decide) (N := 9) (by decide) (by decide) ⟨by decide, by decide⟩ dX2_init_55 rfl (fun q7 => [(h0, .inr (2, [.null, .null, .ref q1, .ref q2, .ref q3, .ref q4, .ref q5, .ref q6, .int 0, .int 0, .int 0, .null, .int 0, .long 0])), (q1, .inl (cs 0, 6, .inl (fun _ => 0))), (q2, .inl (cs 0, 6, .inl (fun _ => 0))), (q3, .inl (cs 0, 9, .inl (fun _ => 0))), (q4, .inl (cs 0, 9, .inl (fun _ => 0))), (q5, .inl (cs 0, 9, .inl (fun _ => 0))), (q6, .inl (cs 0, 9, .inl (fun _ => 0))), (q7, .inl (cs 0, 9, .inl (fun _ => 0)))]) (fun _ => rfl) (fun q7 => ?_)
  refine jj_putF (pc2 := 60) (wd := jp_d X) hC hnm hi_X2_init_X2 0 rfl rfl 11 (by decide) lk_X2_init_11 rfl tyX2 tyX2_ok nmX2 rfl rfl rfl rfl (Nat.le_of_ble_eq_true rfl) [(h0, .inr (2, [.null, .null, .ref q1, .ref q2, .ref q3, .ref q4, .ref q5, .ref q6, .int 0, .int 0, .int 0, .ref q7, .int 0, .long 0])), (q1, .inl (cs 0, 6, .inl (fun _ => 0))), (q2, .inl (cs 0, 6, .inl (fun _ => 0))), (q3, .inl (cs 0, 9, .inl (fun _ => 0))), (q4, .inl (cs 0, 9, .inl (fun _ => 0))), (q5, .inl (cs 0, 9, .inl (fun _ => 0))), (q6, .inl (cs 0, 9, .inl (fun _ => 0))), (q7, .inl (cs 0, 9, .inl (fun _ => 0)))] rfl dX2_init_57 rfl ?_
  refine jj_aload_n (pc2 := 61) hC dX2_init_60 rfl 0 rfl rfl ?_
  refine jj_aload_n (pc2 := 62) hC dX2_init_61 rfl 1 rfl rfl ?_
  refine jj_putF (pc2 := 65) (wd := jp_d X) hC hnm hi_X2_init_X2 0 rfl rfl 0 (by decide) lk_X2_init_12 rfl tyX2 tyX2_ok nmX2 rfl rfl rfl rfl (Nat.le_of_ble_eq_true rfl) [(h0, .inr (2, [.ref ht, .null, .ref q1, .ref q2, .ref q3, .ref q4, .ref q5, .ref q6, .int 0, .int 0, .int 0, .ref q7, .int 0, .long 0])), (q1, .inl (cs 0, 6, .inl (fun _ => 0))), (q2, .inl (cs 0, 6, .inl (fun _ => 0))), (q3, .inl (cs 0, 9, .inl (fun _ => 0))), (q4, .inl (cs 0, 9, .inl (fun _ => 0))), (q5, .inl (cs 0, 9, .inl (fun _ => 0))), (q6, .inl (cs 0, 9, .inl (fun _ => 0))), (q7, .inl (cs 0, 9, .inl (fun _ => 0)))] rfl dX2_init_62 rfl ?_
  refine jj_aload_n (pc2 := 66) hC dX2_init_65 rfl 0 rfl rfl ?_
  refine jj_aload_n (pc2 := 67) hC dX2_init_66 rfl 2 rfl rfl ?_
  refine jj_putF (pc2 := 70) (wd := jp_d X) hC hnm hi_X2_init_X2 0 rfl rfl 1 (by decide) lk_X2_init_13 rfl tyX2 tyX2_ok nmX2 rfl rfl rfl rfl (Nat.le_of_ble_eq_true rfl) [(h0, .inr (2, [.ref ht, .ref hp, .ref q1, .ref q2, .ref q3, .ref q4, .ref q5, .ref q6, .int 0, .int 0, .int 0, .ref q7, .int 0, .long 0])), (q1, .inl (cs 0, 6, .inl (fun _ => 0))), (q2, .inl (cs 0, 6, .inl (fun _ => 0))), (q3, .inl (cs 0, 9, .inl (fun _ => 0))), (q4, .inl (cs 0, 9, .inl (fun _ => 0))), (q5, .inl (cs 0, 9, .inl (fun _ => 0))), (q6, .inl (cs 0, 9, .inl (fun _ => 0))), (q7, .inl (cs 0, 9, .inl (fun _ => 0)))] rfl dX2_init_67 rfl ?_
  exact jj_vret hC dX2_init_70 ⟨q1, q2, q3, q4, q5, q6, q7, rfl⟩
theorem lk_X7_init_1 : Cond.methodLink RX7 3 objectInit ∈ wsX7_init := List.mem_of_getElem? (i := 1) rfl
theorem lk_X7_init_2 : Cond.instanceMethod objectInit ∈ wsX7_init := List.mem_of_getElem? (i := 2) rfl
theorem lk_X7_init_3 : Cond.code objectInit ⟨#[0xb1]⟩ 1 none ∈ wsX7_init := List.mem_of_getElem? (i := 3) rfl
theorem lk_X7_init_4 : Cond.arrayClass .long ∈ wsX7_init := List.mem_of_getElem? (i := 4) rfl
theorem hi_X7_init_X7 : ∀ w ∈ u_ws RX7 TX7 5, w ∈ wsX7_init := fun _ h => List.mem_cons_of_mem _ (List.mem_append_left _ (List.mem_append_right _ h))
theorem lk_X7_init_5 : Cond.fieldLink RX7 9 "PartedHouse$Prices" "pairs" "[J" ∈ wsX7_init := List.mem_of_getElem? (i := 5) rfl
theorem lk_X7_init_6 : Cond.fieldLink RX7 15 "PartedHouse$Prices" "text" "LPartedHouse$Text;" ∈ wsX7_init := List.mem_of_getElem? (i := 6) rfl
theorem hi_X7_init_X4 : ∀ w ∈ u_ws RX4 TX4 11, w ∈ wsX7_init := fun _ h => List.mem_cons_of_mem _ (List.mem_append_right _ h)
theorem lk_X7_init_7 : Cond.fieldLink RX7 19 "PartedHouse$Houses" "counts" "[I" ∈ wsX7_init := List.mem_of_getElem? (i := 7) rfl
theorem lk_X7_init_8 : Cond.fieldLink RX7 25 "PartedHouse$Prices" "counts" "[I" ∈ wsX7_init := List.mem_of_getElem? (i := 8) rfl
theorem lk_X7_init_9 : Cond.fieldLink RX7 26 "PartedHouse$Houses" "homeSets" "LPartedHouse$HomeSets;" ∈ wsX7_init := List.mem_of_getElem? (i := 9) rfl
theorem lk_X7_init_10 : Cond.fieldLink RX7 30 "PartedHouse$Prices" "homeSets" "LPartedHouse$HomeSets;" ∈ wsX7_init := List.mem_of_getElem? (i := 10) rfl
abbrev rm_X7_init : Room := { frames := 1, cells := 1, slots := 100, locals := 40 }
-- the cells behind X7_init
set_option maxHeartbeats 4000000 in
set_option maxRecDepth 100000 in
theorem ki_X7_init (l : Launch) (D : va_G) (cs : Nat → ClassId) (X : va_W) (h0 : Nat) (ht : Nat) (hh : Nat) (hh0 : Nat) (hh1 : Nat) (hh2 : Nat) (hh3 : Nat) (hh4 : Nat) (hh5 : Nat) (hh6 : Nat) (hv7 : Int32) (hv8 : Int32) (hv9 : Int32) (hv10 : Int32) : JV (jp_d X) D vwCl (jt_tys cs) l yX7_init wsX7_init rm_X7_init 1 100 [.ref h0, .ref ht, .ref hh] [(h0, .inr (7, [.null, .null, .null, .null, .long 0])), (hh, .inr (4, [.ref hh0, .ref hh1, .ref hh2, .ref hh3, .ref hh4, .ref hh5, .ref hh6, .int hv7, .int hv8, .int hv9, .int hv10]))] (fun w => ∃ (q1 : Nat), w = [(h0, .inr (7, [.ref q1, .ref ht, .ref hh3, .ref hh4, .long 0])), (hh, .inr (4, [.ref hh0, .ref hh1, .ref hh2, .ref hh3, .ref hh4, .ref hh5, .ref hh6, .int hv7, .int hv8, .int hv9, .int hv10])), (q1, .inl (cs 1, 100, .inr (.inl (fun _ => 0))))]) := by
  refine jj_metV (cc := cX7_init) (nL := 3) (ret := none) (by decide) rfl (Nat.le_of_ble_eq_true rfl) [(0, .ref h0), (1, .ref ht), (2, .ref hh)] rfl ?_
  intro p e s m args below meth c hC hnm
  refine jj_aload_n (pc2 := 1) hC dX7_init_0 rfl 0 rfl rfl ?_
  refine jj_objInit (pc2 := 4) (rest := []) hC lk_X7_init_1 lk_X7_init_2 lk_X7_init_3 dX7_init_1 (by decide) (Nat.le_of_ble_eq_true rfl) rfl ?_
  refine jj_aload_n (pc2 := 5) hC dX7_init_4 rfl 0 rfl rfl ?_
  refine jj_bipush (pc2 := 7) hC 100 dX7_init_5 (by decide) rfl ?_
  refine jp_newJ (pc2 := 9) hC lk_X7_init_4 (by decide) (N := 100) (by decide) (by decide) ⟨by decide, by decide⟩ dX7_init_7 rfl (fun q1 => [(h0, .inr (7, [.null, .null, .null, .null, .long 0])), (hh, .inr (4, [.ref hh0, .ref hh1, .ref hh2, .ref hh3, .ref hh4, .ref hh5, .ref hh6, .int hv7, .int hv8, .int hv9, .int hv10])), (q1, .inl (cs 1, 100, .inr (.inl (fun _ => 0))))]) (fun _ => rfl) (fun q1 => ?_)
  refine jj_putF (pc2 := 12) (wd := jp_d X) hC hnm hi_X7_init_X7 0 rfl rfl 0 (by decide) lk_X7_init_5 rfl tyX7 tyX7_ok nmX7 rfl rfl rfl rfl (Nat.le_of_ble_eq_true rfl) [(h0, .inr (7, [.ref q1, .null, .null, .null, .long 0])), (hh, .inr (4, [.ref hh0, .ref hh1, .ref hh2, .ref hh3, .ref hh4, .ref hh5, .ref hh6, .int hv7, .int hv8, .int hv9, .int hv10])), (q1, .inl (cs 1, 100, .inr (.inl (fun _ => 0))))] rfl dX7_init_9 rfl ?_
  refine jj_aload_n (pc2 := 13) hC dX7_init_12 rfl 0 rfl rfl ?_
  refine jj_aload_n (pc2 := 14) hC dX7_init_13 rfl 1 rfl rfl ?_
  refine jj_putF (pc2 := 17) (wd := jp_d X) hC hnm hi_X7_init_X7 0 rfl rfl 1 (by decide) lk_X7_init_6 rfl tyX7 tyX7_ok nmX7 rfl rfl rfl rfl (Nat.le_of_ble_eq_true rfl) [(h0, .inr (7, [.ref q1, .ref ht, .null, .null, .long 0])), (hh, .inr (4, [.ref hh0, .ref hh1, .ref hh2, .ref hh3, .ref hh4, .ref hh5, .ref hh6, .int hv7, .int hv8, .int hv9, .int hv10])), (q1, .inl (cs 1, 100, .inr (.inl (fun _ => 0))))] rfl dX7_init_14 rfl ?_
  refine jj_aload_n (pc2 := 18) hC dX7_init_17 rfl 0 rfl rfl ?_
  refine jj_aload_n (pc2 := 19) hC dX7_init_18 rfl 2 rfl rfl ?_
  refine jj_get (pc2 := 22) (wd := jp_d X) hC hi_X7_init_X4 1 rfl rfl 3 (by decide) lk_X7_init_7 rfl rfl dX7_init_19 rfl ?_
  refine jj_putF (pc2 := 25) (wd := jp_d X) hC hnm hi_X7_init_X7 0 rfl rfl 2 (by decide) lk_X7_init_8 rfl tyX7 tyX7_ok nmX7 rfl rfl rfl rfl (Nat.le_of_ble_eq_true rfl) [(h0, .inr (7, [.ref q1, .ref ht, .ref hh3, .null, .long 0])), (hh, .inr (4, [.ref hh0, .ref hh1, .ref hh2, .ref hh3, .ref hh4, .ref hh5, .ref hh6, .int hv7, .int hv8, .int hv9, .int hv10])), (q1, .inl (cs 1, 100, .inr (.inl (fun _ => 0))))] rfl dX7_init_22 rfl ?_
  refine jj_aload_n (pc2 := 26) hC dX7_init_25 rfl 0 rfl rfl ?_
  refine jj_aload_n (pc2 := 27) hC dX7_init_26 rfl 2 rfl rfl ?_
  refine jj_get (pc2 := 30) (wd := jp_d X) hC hi_X7_init_X4 1 rfl rfl 4 (by decide) lk_X7_init_9 rfl rfl dX7_init_27 rfl ?_
  refine jj_putF (pc2 := 33) (wd := jp_d X) hC hnm hi_X7_init_X7 0 rfl rfl 3 (by decide) lk_X7_init_10 rfl tyX7 tyX7_ok nmX7 rfl rfl rfl rfl (Nat.le_of_ble_eq_true rfl) [(h0, .inr (7, [.ref q1, .ref ht, .ref hh3, .ref hh4, .long 0])), (hh, .inr (4, [.ref hh0, .ref hh1, .ref hh2, .ref hh3, .ref hh4, .ref hh5, .ref hh6, .int hv7, .int hv8, .int hv9, .int hv10])), (q1, .inl (cs 1, 100, .inr (.inl (fun _ => 0))))] rfl dX7_init_30 rfl ?_
  exact jj_vret hC dX7_init_33 ⟨q1, rfl⟩
theorem lk_X4_init_1 : Cond.methodLink RX4 3 objectInit ∈ wsX4_init := List.mem_of_getElem? (i := 1) rfl
theorem lk_X4_init_2 : Cond.instanceMethod objectInit ∈ wsX4_init := List.mem_of_getElem? (i := 2) rfl
theorem lk_X4_init_3 : Cond.code objectInit ⟨#[0xb1]⟩ 1 none ∈ wsX4_init := List.mem_of_getElem? (i := 3) rfl
theorem lk_X4_init_4 : Cond.arrayClass .int ∈ wsX4_init := List.mem_of_getElem? (i := 4) rfl
theorem hi_X4_init_X4 : ∀ w ∈ u_ws RX4 TX4 11, w ∈ wsX4_init := fun _ h => List.mem_cons_of_mem _ (List.mem_append_left _ (List.mem_append_left _ (List.mem_append_right _ h)))
theorem lk_X4_init_5 : Cond.fieldLink RX4 9 "PartedHouse$Houses" "oldCells" "[I" ∈ wsX4_init := List.mem_of_getElem? (i := 5) rfl
theorem lk_X4_init_6 : Cond.fieldLink RX4 15 "PartedHouse$Houses" "newCells" "[I" ∈ wsX4_init := List.mem_of_getElem? (i := 6) rfl
theorem lk_X4_init_7 : Cond.fieldLink RX4 18 "PartedHouse$Houses" "rooms" "[I" ∈ wsX4_init := List.mem_of_getElem? (i := 7) rfl
theorem lk_X4_init_8 : Cond.fieldLink RX4 21 "PartedHouse$Houses" "counts" "[I" ∈ wsX4_init := List.mem_of_getElem? (i := 8) rfl
theorem hi_X4_init_X3 : ∀ w ∈ u_ws RX3 TX3 3, w ∈ wsX4_init := fun _ h => List.mem_cons_of_mem _ (List.mem_append_left _ (List.mem_append_right _ h))
theorem lk_X4_init_9 : Cond.classLink RX4 24 RX3 ∈ wsX4_init := List.mem_of_getElem? (i := 9) rfl
theorem lk_X4_init_10 : Cond.instantiable RX3 3 ∈ wsX4_init := List.mem_of_getElem? (i := 10) rfl
theorem lk_X4_init_11 : Cond.initialized RX3 ∈ wsX4_init := List.mem_of_getElem? (i := 11) rfl
theorem lk_X4_init_18 : Cond.instanceMethod yX3_init ∈ wsX4_init := List.mem_of_getElem? (i := 18) rfl
theorem lk_X4_init_12 : Cond.fieldLink RX4 27 "PartedHouse$Houses" "homeSets" "LPartedHouse$HomeSets;" ∈ wsX4_init := List.mem_of_getElem? (i := 12) rfl
theorem hi_X4_init_X6 : ∀ w ∈ u_ws RX6 TX6 5, w ∈ wsX4_init := fun _ h => List.mem_cons_of_mem _ (List.mem_append_right _ h)
theorem lk_X4_init_13 : Cond.classLink RX4 31 RX6 ∈ wsX4_init := List.mem_of_getElem? (i := 13) rfl
theorem lk_X4_init_14 : Cond.instantiable RX6 5 ∈ wsX4_init := List.mem_of_getElem? (i := 14) rfl
theorem lk_X4_init_15 : Cond.initialized RX6 ∈ wsX4_init := List.mem_of_getElem? (i := 15) rfl
theorem lk_X4_init_23 : Cond.instanceMethod yX6_init ∈ wsX4_init := List.mem_of_getElem? (i := 23) rfl
theorem lk_X4_init_16 : Cond.fieldLink RX4 34 "PartedHouse$Houses" "letters" "LPartedHouse$Letters;" ∈ wsX4_init := List.mem_of_getElem? (i := 16) rfl
theorem lk_X4_init_17 : Cond.fieldLink RX4 38 "PartedHouse$Houses" "firstUnlike" "[I" ∈ wsX4_init := List.mem_of_getElem? (i := 17) rfl
abbrev rm_X4_init : Room := { frames := 2, cells := 12, slots := 835, locals := 60 }
-- the cells behind X4_init
set_option maxHeartbeats 4000000 in
set_option maxRecDepth 100000 in
theorem ki_X4_init (l : Launch) (D : va_G) (cs : Nat → ClassId) (X : va_W) (h0 : Nat) : JV (jp_d X) D vwCl (jt_tys cs) l yX4_init wsX4_init rm_X4_init 12 835 [.ref h0] [(h0, .inr (4, [.null, .null, .null, .null, .null, .null, .null, .int 0, .int 0, .int 0, .int 0]))] (fun w => ∃ (q1 q2 q3 q4 q5 q6 q7 q8 q9 q10 q11 q12 : Nat), w = [(h0, .inr (4, [.ref q1, .ref q2, .ref q3, .ref q4, .ref q5, .ref q8, .ref q12, .int 0, .int 0, .int 0, .int 0])), (q8, .inr (6, [.ref q9, .ref q10, .ref q11, .int 0, .int 0])), (q9, .inl (cs 0, 32, .inl (fun _ => 0))), (q10, .inl (cs 0, 32, .inl (fun _ => 0))), (q11, .inl (cs 0, 40, .inl (fun _ => 0))), (q5, .inr (3, [.ref q6, .ref q7, .int 0])), (q6, .inl (cs 0, 16, .inl (fun _ => 0))), (q7, .inl (cs 0, 16, .inl (fun _ => 0))), (q1, .inl (cs 0, 128, .inl (fun _ => 0))), (q2, .inl (cs 0, 128, .inl (fun _ => 0))), (q3, .inl (cs 0, 10, .inl (fun _ => 0))), (q4, .inl (cs 0, 420, .inl (fun _ => 0))), (q12, .inl (cs 0, 5, .inl (fun _ => 0)))]) := by
  refine jj_metV (cc := cX4_init) (nL := 1) (ret := none) (by decide) rfl (Nat.le_of_ble_eq_true rfl) [(0, .ref h0)] rfl ?_
  intro p e s m args below meth c hC hnm
  refine jj_aload_n (pc2 := 1) hC dX4_init_0 rfl 0 rfl rfl ?_
  refine jj_objInit (pc2 := 4) (rest := []) hC lk_X4_init_1 lk_X4_init_2 lk_X4_init_3 dX4_init_1 (by decide) (Nat.le_of_ble_eq_true rfl) rfl ?_
  refine jj_aload_n (pc2 := 5) hC dX4_init_4 rfl 0 rfl rfl ?_
  refine jj_sipush (pc2 := 8) hC 128 dX4_init_5 (by decide) rfl ?_
  refine jp_newI (pc2 := 10) hC lk_X4_init_4 (by decide) (N := 128) (by decide) (by decide) ⟨by decide, by decide⟩ dX4_init_8 rfl (fun q1 => [(h0, .inr (4, [.null, .null, .null, .null, .null, .null, .null, .int 0, .int 0, .int 0, .int 0])), (q1, .inl (cs 0, 128, .inl (fun _ => 0)))]) (fun _ => rfl) (fun q1 => ?_)
  refine jj_putF (pc2 := 13) (wd := jp_d X) hC hnm hi_X4_init_X4 0 rfl rfl 0 (by decide) lk_X4_init_5 rfl tyX4 tyX4_ok nmX4 rfl rfl rfl rfl (Nat.le_of_ble_eq_true rfl) [(h0, .inr (4, [.ref q1, .null, .null, .null, .null, .null, .null, .int 0, .int 0, .int 0, .int 0])), (q1, .inl (cs 0, 128, .inl (fun _ => 0)))] rfl dX4_init_10 rfl ?_
  refine jj_aload_n (pc2 := 14) hC dX4_init_13 rfl 0 rfl rfl ?_
  refine jj_sipush (pc2 := 17) hC 128 dX4_init_14 (by decide) rfl ?_
  refine jp_newI (pc2 := 19) hC lk_X4_init_4 (by decide) (N := 128) (by decide) (by decide) ⟨by decide, by decide⟩ dX4_init_17 rfl (fun q2 => [(h0, .inr (4, [.ref q1, .null, .null, .null, .null, .null, .null, .int 0, .int 0, .int 0, .int 0])), (q1, .inl (cs 0, 128, .inl (fun _ => 0))), (q2, .inl (cs 0, 128, .inl (fun _ => 0)))]) (fun _ => rfl) (fun q2 => ?_)
  refine jj_putF (pc2 := 22) (wd := jp_d X) hC hnm hi_X4_init_X4 0 rfl rfl 1 (by decide) lk_X4_init_6 rfl tyX4 tyX4_ok nmX4 rfl rfl rfl rfl (Nat.le_of_ble_eq_true rfl) [(h0, .inr (4, [.ref q1, .ref q2, .null, .null, .null, .null, .null, .int 0, .int 0, .int 0, .int 0])), (q1, .inl (cs 0, 128, .inl (fun _ => 0))), (q2, .inl (cs 0, 128, .inl (fun _ => 0)))] rfl dX4_init_19 rfl ?_
  refine jj_aload_n (pc2 := 23) hC dX4_init_22 rfl 0 rfl rfl ?_
  refine jj_bipush (pc2 := 25) hC 10 dX4_init_23 (by decide) rfl ?_
  refine jp_newI (pc2 := 27) hC lk_X4_init_4 (by decide) (N := 10) (by decide) (by decide) ⟨by decide, by decide⟩ dX4_init_25 rfl (fun q3 => [(h0, .inr (4, [.ref q1, .ref q2, .null, .null, .null, .null, .null, .int 0, .int 0, .int 0, .int 0])), (q1, .inl (cs 0, 128, .inl (fun _ => 0))), (q2, .inl (cs 0, 128, .inl (fun _ => 0))), (q3, .inl (cs 0, 10, .inl (fun _ => 0)))]) (fun _ => rfl) (fun q3 => ?_)
  refine jj_putF (pc2 := 30) (wd := jp_d X) hC hnm hi_X4_init_X4 0 rfl rfl 2 (by decide) lk_X4_init_7 rfl tyX4 tyX4_ok nmX4 rfl rfl rfl rfl (Nat.le_of_ble_eq_true rfl) [(h0, .inr (4, [.ref q1, .ref q2, .ref q3, .null, .null, .null, .null, .int 0, .int 0, .int 0, .int 0])), (q1, .inl (cs 0, 128, .inl (fun _ => 0))), (q2, .inl (cs 0, 128, .inl (fun _ => 0))), (q3, .inl (cs 0, 10, .inl (fun _ => 0)))] rfl dX4_init_27 rfl ?_
  refine jj_aload_n (pc2 := 31) hC dX4_init_30 rfl 0 rfl rfl ?_
  refine jj_sipush (pc2 := 34) hC 420 dX4_init_31 (by decide) rfl ?_
  refine jp_newI (pc2 := 36) hC lk_X4_init_4 (by decide) (N := 420) (by decide) (by decide) ⟨by decide, by decide⟩ dX4_init_34 rfl (fun q4 => [(h0, .inr (4, [.ref q1, .ref q2, .ref q3, .null, .null, .null, .null, .int 0, .int 0, .int 0, .int 0])), (q1, .inl (cs 0, 128, .inl (fun _ => 0))), (q2, .inl (cs 0, 128, .inl (fun _ => 0))), (q3, .inl (cs 0, 10, .inl (fun _ => 0))), (q4, .inl (cs 0, 420, .inl (fun _ => 0)))]) (fun _ => rfl) (fun q4 => ?_)
  refine jj_putF (pc2 := 39) (wd := jp_d X) hC hnm hi_X4_init_X4 0 rfl rfl 3 (by decide) lk_X4_init_8 rfl tyX4 tyX4_ok nmX4 rfl rfl rfl rfl (Nat.le_of_ble_eq_true rfl) [(h0, .inr (4, [.ref q1, .ref q2, .ref q3, .ref q4, .null, .null, .null, .int 0, .int 0, .int 0, .int 0])), (q1, .inl (cs 0, 128, .inl (fun _ => 0))), (q2, .inl (cs 0, 128, .inl (fun _ => 0))), (q3, .inl (cs 0, 10, .inl (fun _ => 0))), (q4, .inl (cs 0, 420, .inl (fun _ => 0)))] rfl dX4_init_36 rfl ?_
  refine jj_aload_n (pc2 := 40) hC dX4_init_39 rfl 0 rfl rfl ?_
  refine jp_newO (pc2 := 43) hC hi_X4_init_X3 tyX3 tyX3_ok lk_X4_init_9 lk_X4_init_10 lk_X4_init_11 (ci := 3) rfl (fs := [.null, .null, .int 0]) (fun j hj => by rcases (show j = 0 ∨ j = 1 ∨ j = 2 by omega) with rfl | rfl | rfl <;> rfl) ⟨by decide, by decide⟩ dX4_init_40 rfl (fun q5 => [(h0, .inr (4, [.ref q1, .ref q2, .ref q3, .ref q4, .null, .null, .null, .int 0, .int 0, .int 0, .int 0])), (q1, .inl (cs 0, 128, .inl (fun _ => 0))), (q2, .inl (cs 0, 128, .inl (fun _ => 0))), (q3, .inl (cs 0, 10, .inl (fun _ => 0))), (q4, .inl (cs 0, 420, .inl (fun _ => 0))), (q5, .inr (3, [.null, .null, .int 0]))]) (fun _ => rfl) (fun q5 => ?_)
  refine jj_dup (pc2 := 44) hC dX4_init_43 rfl rfl ?_
  refine jp_sub [(q5, .inr (3, [.null, .null, .int 0])), (h0, .inr (4, [.ref q1, .ref q2, .ref q3, .ref q4, .null, .null, .null, .int 0, .int 0, .int 0, .int 0])), (q1, .inl (cs 0, 128, .inl (fun _ => 0))), (q2, .inl (cs 0, 128, .inl (fun _ => 0))), (q3, .inl (cs 0, 10, .inl (fun _ => 0))), (q4, .inl (cs 0, 420, .inl (fun _ => 0)))] [5, 0, 1, 2, 3, 4] (by decide) rfl ?_
  refine jp_out [(q5, .inr (3, [.null, .null, .int 0]))] [(h0, .inr (4, [.ref q1, .ref q2, .ref q3, .ref q4, .null, .null, .null, .int 0, .int 0, .int 0, .int 0])), (q1, .inl (cs 0, 128, .inl (fun _ => 0))), (q2, .inl (cs 0, 128, .inl (fun _ => 0))), (q3, .inl (cs 0, 10, .inl (fun _ => 0))), (q4, .inl (cs 0, 420, .inl (fun _ => 0)))] rfl ?_
  refine jj_callIVN (pc2 := 47) (R := rm_X4_init) (cells := 5) (slots := 689) (wd := jp_d ([(h0, .inr (4, [.ref q1, .ref q2, .ref q3, .ref q4, .null, .null, .null, .int 0, .int 0, .int 0, .int 0])), (q1, .inl (cs 0, 128, .inl (fun _ => 0))), (q2, .inl (cs 0, 128, .inl (fun _ => 0))), (q3, .inl (cs 0, 10, .inl (fun _ => 0))), (q4, .inl (cs 0, 420, .inl (fun _ => 0)))] ++ X)) (rest := [.ref q5, .ref h0]) hC (ki_X3_init l D cs _ q5) ⟨va_cnB (host := "PartedHouse") 0 hC.1.2.2.2.2 gX4_init_X3_init_n26 rfl rfl rfl (hC.2.1.2.1 _ (List.mem_of_getElem? (i := 3) rfl)) (hC.1.2.2.2.2 _ lk_X4_init_11) (by decide +kernel) ⟨by decide, by decide⟩, rfl, hC.1.2.2.2.2 _ lk_X4_init_18⟩ rfl (Nat.le_of_ble_eq_true rfl) _ rfl dX4_init_44 ⟨by decide, by decide⟩ rfl (fun w hw => ?_)
  obtain ⟨q6, q7, rfl⟩ := hw
  refine jp_in [(q5, .inr (3, [.ref q6, .ref q7, .int 0])), (q6, .inl (cs 0, 16, .inl (fun _ => 0))), (q7, .inl (cs 0, 16, .inl (fun _ => 0))), (h0, .inr (4, [.ref q1, .ref q2, .ref q3, .ref q4, .null, .null, .null, .int 0, .int 0, .int 0, .int 0])), (q1, .inl (cs 0, 128, .inl (fun _ => 0))), (q2, .inl (cs 0, 128, .inl (fun _ => 0))), (q3, .inl (cs 0, 10, .inl (fun _ => 0))), (q4, .inl (cs 0, 420, .inl (fun _ => 0)))] rfl ?_
  refine jp_sub [(h0, .inr (4, [.ref q1, .ref q2, .ref q3, .ref q4, .null, .null, .null, .int 0, .int 0, .int 0, .int 0])), (q5, .inr (3, [.ref q6, .ref q7, .int 0])), (q6, .inl (cs 0, 16, .inl (fun _ => 0))), (q7, .inl (cs 0, 16, .inl (fun _ => 0))), (q1, .inl (cs 0, 128, .inl (fun _ => 0))), (q2, .inl (cs 0, 128, .inl (fun _ => 0))), (q3, .inl (cs 0, 10, .inl (fun _ => 0))), (q4, .inl (cs 0, 420, .inl (fun _ => 0)))] [3, 0, 1, 2, 4, 5, 6, 7] (by decide) rfl ?_
  refine jj_putF (pc2 := 50) (wd := jp_d X) hC hnm hi_X4_init_X4 0 rfl rfl 4 (by decide) lk_X4_init_12 rfl tyX4 tyX4_ok nmX4 rfl rfl rfl rfl (Nat.le_of_ble_eq_true rfl) [(h0, .inr (4, [.ref q1, .ref q2, .ref q3, .ref q4, .ref q5, .null, .null, .int 0, .int 0, .int 0, .int 0])), (q5, .inr (3, [.ref q6, .ref q7, .int 0])), (q6, .inl (cs 0, 16, .inl (fun _ => 0))), (q7, .inl (cs 0, 16, .inl (fun _ => 0))), (q1, .inl (cs 0, 128, .inl (fun _ => 0))), (q2, .inl (cs 0, 128, .inl (fun _ => 0))), (q3, .inl (cs 0, 10, .inl (fun _ => 0))), (q4, .inl (cs 0, 420, .inl (fun _ => 0)))] rfl dX4_init_47 rfl ?_
  refine jj_aload_n (pc2 := 51) hC dX4_init_50 rfl 0 rfl rfl ?_
  refine jp_newO (pc2 := 54) hC hi_X4_init_X6 tyX6 tyX6_ok lk_X4_init_13 lk_X4_init_14 lk_X4_init_15 (ci := 6) rfl (fs := [.null, .null, .null, .int 0, .int 0]) (fun j hj => by rcases (show j = 0 ∨ j = 1 ∨ j = 2 ∨ j = 3 ∨ j = 4 by omega) with rfl | rfl | rfl | rfl | rfl <;> rfl) ⟨by decide, by decide⟩ dX4_init_51 rfl (fun q8 => [(h0, .inr (4, [.ref q1, .ref q2, .ref q3, .ref q4, .ref q5, .null, .null, .int 0, .int 0, .int 0, .int 0])), (q5, .inr (3, [.ref q6, .ref q7, .int 0])), (q6, .inl (cs 0, 16, .inl (fun _ => 0))), (q7, .inl (cs 0, 16, .inl (fun _ => 0))), (q1, .inl (cs 0, 128, .inl (fun _ => 0))), (q2, .inl (cs 0, 128, .inl (fun _ => 0))), (q3, .inl (cs 0, 10, .inl (fun _ => 0))), (q4, .inl (cs 0, 420, .inl (fun _ => 0))), (q8, .inr (6, [.null, .null, .null, .int 0, .int 0]))]) (fun _ => rfl) (fun q8 => ?_)
  refine jj_dup (pc2 := 55) hC dX4_init_54 rfl rfl ?_
  refine jp_sub [(q8, .inr (6, [.null, .null, .null, .int 0, .int 0])), (h0, .inr (4, [.ref q1, .ref q2, .ref q3, .ref q4, .ref q5, .null, .null, .int 0, .int 0, .int 0, .int 0])), (q5, .inr (3, [.ref q6, .ref q7, .int 0])), (q6, .inl (cs 0, 16, .inl (fun _ => 0))), (q7, .inl (cs 0, 16, .inl (fun _ => 0))), (q1, .inl (cs 0, 128, .inl (fun _ => 0))), (q2, .inl (cs 0, 128, .inl (fun _ => 0))), (q3, .inl (cs 0, 10, .inl (fun _ => 0))), (q4, .inl (cs 0, 420, .inl (fun _ => 0)))] [8, 0, 1, 2, 3, 4, 5, 6, 7] (by decide) rfl ?_
  refine jp_out [(q8, .inr (6, [.null, .null, .null, .int 0, .int 0]))] [(h0, .inr (4, [.ref q1, .ref q2, .ref q3, .ref q4, .ref q5, .null, .null, .int 0, .int 0, .int 0, .int 0])), (q5, .inr (3, [.ref q6, .ref q7, .int 0])), (q6, .inl (cs 0, 16, .inl (fun _ => 0))), (q7, .inl (cs 0, 16, .inl (fun _ => 0))), (q1, .inl (cs 0, 128, .inl (fun _ => 0))), (q2, .inl (cs 0, 128, .inl (fun _ => 0))), (q3, .inl (cs 0, 10, .inl (fun _ => 0))), (q4, .inl (cs 0, 420, .inl (fun _ => 0)))] rfl ?_
  refine jj_callIVN (pc2 := 58) (R := rm_X4_init) (cells := 8) (slots := 726) (wd := jp_d ([(h0, .inr (4, [.ref q1, .ref q2, .ref q3, .ref q4, .ref q5, .null, .null, .int 0, .int 0, .int 0, .int 0])), (q5, .inr (3, [.ref q6, .ref q7, .int 0])), (q6, .inl (cs 0, 16, .inl (fun _ => 0))), (q7, .inl (cs 0, 16, .inl (fun _ => 0))), (q1, .inl (cs 0, 128, .inl (fun _ => 0))), (q2, .inl (cs 0, 128, .inl (fun _ => 0))), (q3, .inl (cs 0, 10, .inl (fun _ => 0))), (q4, .inl (cs 0, 420, .inl (fun _ => 0)))] ++ X)) (rest := [.ref q8, .ref h0]) hC (ki_X6_init l D cs _ q8) ⟨va_cnB (host := "PartedHouse") 0 hC.1.2.2.2.2 gX4_init_X6_init_n33 rfl rfl rfl (hC.2.1.2.1 _ (List.mem_of_getElem? (i := 4) rfl)) (hC.1.2.2.2.2 _ lk_X4_init_15) (by decide +kernel) ⟨by decide, by decide⟩, rfl, hC.1.2.2.2.2 _ lk_X4_init_23⟩ rfl (Nat.le_of_ble_eq_true rfl) _ rfl dX4_init_55 ⟨by decide, by decide⟩ rfl (fun w hw => ?_)
  obtain ⟨q9, q10, q11, rfl⟩ := hw
  refine jp_in [(q8, .inr (6, [.ref q9, .ref q10, .ref q11, .int 0, .int 0])), (q9, .inl (cs 0, 32, .inl (fun _ => 0))), (q10, .inl (cs 0, 32, .inl (fun _ => 0))), (q11, .inl (cs 0, 40, .inl (fun _ => 0))), (h0, .inr (4, [.ref q1, .ref q2, .ref q3, .ref q4, .ref q5, .null, .null, .int 0, .int 0, .int 0, .int 0])), (q5, .inr (3, [.ref q6, .ref q7, .int 0])), (q6, .inl (cs 0, 16, .inl (fun _ => 0))), (q7, .inl (cs 0, 16, .inl (fun _ => 0))), (q1, .inl (cs 0, 128, .inl (fun _ => 0))), (q2, .inl (cs 0, 128, .inl (fun _ => 0))), (q3, .inl (cs 0, 10, .inl (fun _ => 0))), (q4, .inl (cs 0, 420, .inl (fun _ => 0)))] rfl ?_
  refine jp_sub [(h0, .inr (4, [.ref q1, .ref q2, .ref q3, .ref q4, .ref q5, .null, .null, .int 0, .int 0, .int 0, .int 0])), (q8, .inr (6, [.ref q9, .ref q10, .ref q11, .int 0, .int 0])), (q9, .inl (cs 0, 32, .inl (fun _ => 0))), (q10, .inl (cs 0, 32, .inl (fun _ => 0))), (q11, .inl (cs 0, 40, .inl (fun _ => 0))), (q5, .inr (3, [.ref q6, .ref q7, .int 0])), (q6, .inl (cs 0, 16, .inl (fun _ => 0))), (q7, .inl (cs 0, 16, .inl (fun _ => 0))), (q1, .inl (cs 0, 128, .inl (fun _ => 0))), (q2, .inl (cs 0, 128, .inl (fun _ => 0))), (q3, .inl (cs 0, 10, .inl (fun _ => 0))), (q4, .inl (cs 0, 420, .inl (fun _ => 0)))] [4, 0, 1, 2, 3, 5, 6, 7, 8, 9, 10, 11] (by decide) rfl ?_
  refine jj_putF (pc2 := 61) (wd := jp_d X) hC hnm hi_X4_init_X4 0 rfl rfl 5 (by decide) lk_X4_init_16 rfl tyX4 tyX4_ok nmX4 rfl rfl rfl rfl (Nat.le_of_ble_eq_true rfl) [(h0, .inr (4, [.ref q1, .ref q2, .ref q3, .ref q4, .ref q5, .ref q8, .null, .int 0, .int 0, .int 0, .int 0])), (q8, .inr (6, [.ref q9, .ref q10, .ref q11, .int 0, .int 0])), (q9, .inl (cs 0, 32, .inl (fun _ => 0))), (q10, .inl (cs 0, 32, .inl (fun _ => 0))), (q11, .inl (cs 0, 40, .inl (fun _ => 0))), (q5, .inr (3, [.ref q6, .ref q7, .int 0])), (q6, .inl (cs 0, 16, .inl (fun _ => 0))), (q7, .inl (cs 0, 16, .inl (fun _ => 0))), (q1, .inl (cs 0, 128, .inl (fun _ => 0))), (q2, .inl (cs 0, 128, .inl (fun _ => 0))), (q3, .inl (cs 0, 10, .inl (fun _ => 0))), (q4, .inl (cs 0, 420, .inl (fun _ => 0)))] rfl dX4_init_58 rfl ?_
  refine jj_aload_n (pc2 := 62) hC dX4_init_61 rfl 0 rfl rfl ?_
  refine jj_iconst (pc2 := 63) hC 5 dX4_init_62 (by decide) rfl ?_
  refine jp_newI (pc2 := 65) hC lk_X4_init_4 (by decide) (N := 5) (by decide) (by decide) ⟨by decide, by decide⟩ dX4_init_63 rfl (fun q12 => [(h0, .inr (4, [.ref q1, .ref q2, .ref q3, .ref q4, .ref q5, .ref q8, .null, .int 0, .int 0, .int 0, .int 0])), (q8, .inr (6, [.ref q9, .ref q10, .ref q11, .int 0, .int 0])), (q9, .inl (cs 0, 32, .inl (fun _ => 0))), (q10, .inl (cs 0, 32, .inl (fun _ => 0))), (q11, .inl (cs 0, 40, .inl (fun _ => 0))), (q5, .inr (3, [.ref q6, .ref q7, .int 0])), (q6, .inl (cs 0, 16, .inl (fun _ => 0))), (q7, .inl (cs 0, 16, .inl (fun _ => 0))), (q1, .inl (cs 0, 128, .inl (fun _ => 0))), (q2, .inl (cs 0, 128, .inl (fun _ => 0))), (q3, .inl (cs 0, 10, .inl (fun _ => 0))), (q4, .inl (cs 0, 420, .inl (fun _ => 0))), (q12, .inl (cs 0, 5, .inl (fun _ => 0)))]) (fun _ => rfl) (fun q12 => ?_)
  refine jj_putF (pc2 := 68) (wd := jp_d X) hC hnm hi_X4_init_X4 0 rfl rfl 6 (by decide) lk_X4_init_17 rfl tyX4 tyX4_ok nmX4 rfl rfl rfl rfl (Nat.le_of_ble_eq_true rfl) [(h0, .inr (4, [.ref q1, .ref q2, .ref q3, .ref q4, .ref q5, .ref q8, .ref q12, .int 0, .int 0, .int 0, .int 0])), (q8, .inr (6, [.ref q9, .ref q10, .ref q11, .int 0, .int 0])), (q9, .inl (cs 0, 32, .inl (fun _ => 0))), (q10, .inl (cs 0, 32, .inl (fun _ => 0))), (q11, .inl (cs 0, 40, .inl (fun _ => 0))), (q5, .inr (3, [.ref q6, .ref q7, .int 0])), (q6, .inl (cs 0, 16, .inl (fun _ => 0))), (q7, .inl (cs 0, 16, .inl (fun _ => 0))), (q1, .inl (cs 0, 128, .inl (fun _ => 0))), (q2, .inl (cs 0, 128, .inl (fun _ => 0))), (q3, .inl (cs 0, 10, .inl (fun _ => 0))), (q4, .inl (cs 0, 420, .inl (fun _ => 0))), (q12, .inl (cs 0, 5, .inl (fun _ => 0)))] rfl dX4_init_65 rfl ?_
  exact jj_vret hC dX4_init_68 ⟨q1, q2, q3, q4, q5, q6, q7, q8, q9, q10, q11, q12, rfl⟩
