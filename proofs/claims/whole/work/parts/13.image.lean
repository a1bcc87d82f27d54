theorem vd_iff {A : Nat → Prop} {ws : va_W} : va_D A ws ↔ (ws.map Prod.fst).Nodup ∧ ∀ q ∈ ws, A q.1 := by
  constructor
  · intro h
    refine ⟨?_, fun q hq => by obtain ⟨k, hk⟩ := List.getElem?_of_mem hq; exact h.2 k q hk⟩
    rw [List.Nodup, List.pairwise_iff_getElem]
    intro i j hi hj hij e
    rw [List.length_map] at hi hj
    simp only [List.getElem_map] at e
    have := h.1 i j ws[i] ws[j] (List.getElem?_eq_getElem hi) (List.getElem?_eq_getElem hj) e
    omega
  · intro ⟨h1, h2⟩
    refine ⟨fun i j p q hi hj e => ?_, fun k q hk => h2 q (List.mem_of_getElem? hk)⟩
    obtain ⟨hi', rfl⟩ := List.getElem?_eq_some_iff.mp hi
    obtain ⟨hj', rfl⟩ := List.getElem?_eq_some_iff.mp hj
    rw [List.Nodup, List.pairwise_iff_getElem] at h1
    rcases Nat.lt_trichotomy i j with h | h | h
    · exact absurd (by rw [List.getElem_map, List.getElem_map]; exact e) (h1 i j (by simpa using hi') (by simpa using hj') h)
    · exact h
    · exact absurd (by rw [List.getElem_map, List.getElem_map]; exact e.symm) (h1 j i (by simpa using hj') (by simpa using hi') h)
theorem vd_perm {A : Nat → Prop} {w1 w2 : va_W} (h : w1.Perm w2) (hD : va_D A w1) : va_D A w2 := by
  rw [vd_iff] at hD ⊢
  exact ⟨(h.map Prod.fst).nodup_iff.mp hD.1, fun q hq => hD.2 q (h.mem_iff.mpr hq)⟩
theorem vp_perm {D : va_G} {cl : List vw_C} {w1 w2 : va_W} {H : Heap} (h : w1.Perm w2) (hP : va_P D cl w1 H) : va_P D cl w2 H := fun k q hk => by
  obtain ⟨j, hj⟩ := List.getElem?_of_mem (h.mem_iff.mpr (List.mem_of_getElem? hk))
  exact hP j q hj
theorem pm_ca (a b c : va_W) : (a ++ (b ++ c)).Perm (b ++ (a ++ c)) := by
  rw [← List.append_assoc, ← List.append_assoc]
  exact List.Perm.append_right c List.perm_append_comm
/-- the world but for one kept house -/
def wz (cs : Nat → ClassId) (d : cm_D) (Y X : va_W) (i : Nat) : va_W := match i with
  | 0 => Y ++ (wk_K cs d 1 ++ (wk_K cs d 2 ++ (wk_K cs d 3 ++ X)))
  | 1 => Y ++ (wk_K cs d 0 ++ (wk_K cs d 2 ++ (wk_K cs d 3 ++ X)))
  | 2 => Y ++ (wk_K cs d 0 ++ (wk_K cs d 1 ++ (wk_K cs d 3 ++ X)))
  | _ => Y ++ (wk_K cs d 0 ++ (wk_K cs d 1 ++ (wk_K cs d 2 ++ X)))
theorem wz_perm (cs : Nat → ClassId) (d : cm_D) (Y V X : va_W) {i : Nat} (hi : i < 4) : (Y ++ (V ++ (wc_X cs d ++ X))).Perm ((V ++ wk_K cs d i) ++ wz cs d Y X i) := by
  unfold wc_X
  simp only [List.append_assoc]
  refine (pm_ca Y V _).trans (List.Perm.append_left V ?_)
  rcases (show i = 0 ∨ i = 1 ∨ i = 2 ∨ i = 3 by omega) with rfl | rfl | rfl | rfl
  · exact pm_ca Y _ _
  · exact ((pm_ca _ _ _).append_left Y).trans (pm_ca Y _ _)
  · exact ((((pm_ca _ _ _).append_left _).trans (pm_ca _ _ _)).append_left Y).trans (pm_ca Y _ _)
  · exact ((((((pm_ca _ _ _).append_left _).trans (pm_ca _ _ _)).append_left _).trans (pm_ca _ _ _)).append_left Y).trans (pm_ca Y _ _)
/-- one kept house put anew -/
def cd_put (d : cm_D) (i : Nat) (a n : Nat → Nat) (g : jm_M) : cm_D := (d.1, d.2.1, va_up d.2.2.1 i (some a), va_up d.2.2.2.1 i n, va_up d.2.2.2.2 i g)
theorem wz_up (cs : Nat → ClassId) (d : cm_D) (Y X : va_W) {i : Nat} (hi : i < 4) (a n : Nat → Nat) (g : jm_M) : wz cs (cd_put d i a n g) Y X i = wz cs d Y X i := by
  rcases (show i = 0 ∨ i = 1 ∨ i = 2 ∨ i = 3 by omega) with rfl | rfl | rfl | rfl <;> rfl
theorem wk_up (cs : Nat → ClassId) (d : cm_D) (i : Nat) (a n : Nat → Nat) (g : jm_M) : wk_K cs (cd_put d i a n g) i = wk_H cs a n g := by
  unfold wk_K cd_put
  simp [va_up]
theorem wk_some {cs : Nat → ClassId} {d : cm_D} {i : Nat} {a : Nat → Nat} (h : d.2.2.1 i = some a) : wk_K cs d i = wk_H cs a (d.2.2.2.1 i) (d.2.2.2.2 i) := by
  unfold wk_K
  rw [h]
theorem wk_none {cs : Nat → ClassId} {d : cm_D} {i : Nat} (h : d.2.2.1 i = none) : wk_K cs d i = [] := by
  unfold wk_K
  rw [h]
/-- the addresses of the house of now -/
def an_A (ad : Nat → Nat) (g : cm_M) : Nat → Nat := fun i => match i with
  | 0 => ad 3
  | 1 => ad 4
  | 2 => ad 5
  | 3 => ad 30
  | 4 => ad 31
  | 5 => ad 32
  | 6 => ad 33
  | 7 => ad 34
  | 8 => g.1.1 0
  | 9 => g.1.1 1
  | 10 => g.1.1 2
  | 11 => g.1.1 3
  | _ => ad 39
def wo_W (cs : Nat → ClassId) (ad : Nat → Nat) (g : cm_M) : va_W :=
  [(ad 0, .inr (10, [.ref (ad 1), .ref (ad 2), .ref (ad 3), .ref (ad 11), .ref (ad 12), .ref (ad 13), .ref (ad 14), .ref (ad 15), .ref (ad 6), .ref (ad 7), .ref (ad 8), .ref (ad 9), .ref (ad 10)])),
   (ad 1, .inr (9, [.ref (ad 16), .ref (ad 17), .ref (ad 18), .ref (ad 19), .ref (ad 20), .ref (ad 21), .ref (ad 22), .ref (ad 23), .int (g.2.2 12 0), .int (g.2.2 13 0), .int (g.2.2 14 0)])),
   (ad 2, .inr (0, [.ref (ad 24), .ref (ad 25), .ref (ad 26), .ref (ad 27), .ref (ad 28), .ref (ad 29), .int (g.2.2 21 0), .int (g.2.2 22 0), .int (g.2.2 23 0), .int (g.2.2 24 0)])),
   (ad 6, .inr (7, [.ref (ad 40), .ref (ad 1), .ref (ad 33), .ref (ad 4), .long (g.2.1 1 0)])),
   (ad 7, .inr (2, [.ref (ad 1), .ref (ad 6), .ref (ad 41), .ref (ad 42), .ref (ad 43), .ref (ad 44), .ref (ad 45), .ref (ad 46), .int (g.2.2 48 0), .int (g.2.2 49 0), .int (g.2.2 50 0), .ref (ad 47), .int (g.2.2 52 0), .long (g.2.1 2 0)])),
   (ad 8, .inr (8, [.ref (ad 48), .ref (ad 49)])),
   (ad 9, .inr (5, [.ref (ad 50), .ref (ad 51), .ref (ad 52), .ref (ad 53), .int (g.2.2 59 0)])),
   (ad 10, .inr (1, [.ref (ad 54), .ref (ad 55), .ref (ad 56), .ref (ad 57), .ref (ad 58), .ref (ad 59), .ref (ad 60), .int (g.2.2 67 0)])),
   (ad 11, .inl (cs 3, 4, .inr (.inr (.inr (.inr (fun i => (g.1.2.2.1 i).map (fun a => a 0))))))),
   (ad 12, .inl (cs 0, 4, .inl (g.2.2 0))),
   (ad 13, .inl (cs 0, 4, .inl (g.2.2 1))),
   (ad 14, .inl (cs 0, 4, .inl (g.2.2 2))),
   (ad 15, .inl (cs 0, 100, .inl (g.2.2 3))),
   (ad 16, .inl (cs 0, 10, .inl (g.2.2 4))),
   (ad 17, .inl (cs 0, 16, .inl (g.2.2 5))),
   (ad 18, .inl (cs 0, 40, .inl (g.2.2 6))),
   (ad 19, .inl (cs 0, 40, .inl (g.2.2 7))),
   (ad 20, .inl (cs 0, 640, .inl (g.2.2 8))),
   (ad 21, .inl (cs 0, 640, .inl (g.2.2 9))),
   (ad 22, .inl (cs 0, 640, .inl (g.2.2 10))),
   (ad 23, .inl (cs 0, 420, .inl (g.2.2 11))),
   (ad 24, .inl (cs 0, 128, .inl (g.2.2 15))),
   (ad 25, .inl (cs 2, 128, .inl (g.2.2 16))),
   (ad 26, .inl (cs 0, 128, .inl (g.2.2 17))),
   (ad 27, .inl (cs 0, 300, .inl (g.2.2 18))),
   (ad 28, .inl (cs 0, 8, .inl (g.2.2 19))),
   (ad 29, .inl (cs 0, 8, .inl (g.2.2 20))),
   (ad 40, .inl (cs 1, 100, .inr (.inl (g.2.1 0)))),
   (ad 41, .inl (cs 0, 6, .inl (g.2.2 42))),
   (ad 42, .inl (cs 0, 6, .inl (g.2.2 43))),
   (ad 43, .inl (cs 0, 9, .inl (g.2.2 44))),
   (ad 44, .inl (cs 0, 9, .inl (g.2.2 45))),
   (ad 45, .inl (cs 0, 9, .inl (g.2.2 46))),
   (ad 46, .inl (cs 0, 9, .inl (g.2.2 47))),
   (ad 47, .inl (cs 0, 9, .inl (g.2.2 51))),
   (ad 48, .inl (cs 0, 6, .inl (g.2.2 53))),
   (ad 49, .inl (cs 0, 6, .inl (g.2.2 54))),
   (ad 50, .inl (cs 0, 10, .inl (g.2.2 55))),
   (ad 51, .inl (cs 0, 10, .inl (g.2.2 56))),
   (ad 52, .inl (cs 0, 60, .inl (g.2.2 57))),
   (ad 53, .inl (cs 0, 60, .inl (g.2.2 58))),
   (ad 54, .inl (cs 0, 64, .inl (g.2.2 60))),
   (ad 55, .inl (cs 0, 64, .inl (g.2.2 61))),
   (ad 56, .inl (cs 2, 64, .inl (g.2.2 62))),
   (ad 57, .inl (cs 0, 6, .inl (g.2.2 63))),
   (ad 58, .inl (cs 0, 6, .inl (g.2.2 64))),
   (ad 59, .inl (cs 0, 6, .inl (g.2.2 65))),
   (ad 60, .inl (cs 0, 6, .inl (g.2.2 66)))]
/-- the rows of a house out of g2, all others out of g -/
def hs_put (g g2 : jm_M) : jm_M := fun k => bif (Nat.ble 25 k && Nat.ble k 41) then g2 k else g k
section JQ
variable {M M2 : Type} {wd : M → va_W} {wd2 : M2 → va_W} {p : Program} {l : Launch} {e : Env} {R : Room} {s : State} {m : MethodId} {args : Array Value} {below : List Frame} {meth : Method} {c : Code} {D : va_G} {cl : List vw_C} {A : Nat → Prop} {nL cells slots : Nat} {Q : State → Prop} {g : M} {g2 : M2} {pc pc2 : Nat} {lv : List (Nat × Value)} {rest : List Value} {index : Nat} {cc : ByteArray} {ret : Option FieldType} {Ts : List Cond} {own : String} {tys : List (ClassId × FieldType)}
theorem jj_perm (h : (wd g).Perm (wd2 g2)) (k : JJ wd2 p l e R s m args below meth c D cl A nL cells slots Q pc lv rest g2) : JJ wd p l e R s m args below meth c D cl A nL cells slots Q pc lv rest g := fun H locs ls hP hD hS hl => k H locs ls (vp_perm h hP) (vd_perm h hD) hS hl
theorem jj_aldq (hC : JC p s m args meth c D cl A nL cc ret Ts own tys) (q0 t0 : Nat) {cA : ClassId} {C : String} {n a : Nat} {f : Nat → Option Nat} (ha : (wd g)[q0]? = some (a, .inl (cA, n, .inr (.inr (.inr (.inr f)))))) (ht : tys[t0]? = some (cA, .object C)) {i : Int32} (hin : vp_in i n) (hdg : decode cc pc = .ok (.aaload, 1)) (hp : pc + 1 = pc2) (kk : JJ wd p l e R s m args below meth c D cl A nL cells slots Q pc2 lv (va_rf (f i.toNatClampNeg) :: rest) g) : JJ wd p l e R s m args below meth c D cl A nL cells slots Q pc lv (.int i :: .ref a :: rest) g := fun H locs ls hP hD hS hl => va_aldq hC.1.1 hC.1.2.1 hC.2.1.1 hP q0 t0 ha ht hin hdg (by subst hp; exact kk H locs ls hP hD hS hl)
theorem jj_astq (hC : JC p s m args meth c D cl A nL cc ret Ts own tys) (q0 t0 qk ci : Nat) {cA : ClassId} {r : vw_C} {n a v : Nat} {vs : List Value} {f : Nat → Option Nat} (ha : (wd g)[q0]? = some (a, .inl (cA, n, .inr (.inr (.inr (.inr f)))))) (ht : tys[t0]? = some (cA, .object r.1)) (hv : (wd g)[qk]? = some (v, .inr (ci, vs))) (hc : cl[ci]? = some r) {i : Int32} (hin : vp_in i n) (g2 : M) (hset : (wd g).set q0 (a, .inl (cA, n, .inr (.inr (.inr (.inr (va_up f i.toNatClampNeg (some v))))))) = wd g2) (hdg : decode cc pc = .ok (.aastore, 1)) (hp : pc + 1 = pc2) (kk : JJ wd p l e R s m args below meth c D cl A nL cells slots Q pc2 lv rest g2) : JJ wd p l e R s m args below meth c D cl A nL cells slots Q pc lv (.ref v :: .int i :: .ref a :: rest) g := fun H locs ls hP hD hS hl => va_astq hC.1.1 hC.1.2.1 hC.2.1.1 hP hD hS q0 t0 qk ci ha ht hv hc hin hdg (fun H1 locs1 hP1 hD1 hS1 => by subst hp; rw [hset] at hP1 hD1; exact kk H1 locs1 ls hP1 hD1 hS1 hl)
theorem jj_ifnn (hC : JC p s m args meth c D cl A nL cc ret Ts own tys) {x : Nat} {off : Int} (tgt : Nat) (hdg : decode cc pc = .ok (.ifnonnull off, 3)) (ht : (pc : Int) + off = (tgt : Int)) (k : JJ wd p l e R s m args below meth c D cl A nL cells slots Q tgt lv rest g) : JJ wd p l e R s m args below meth c D cl A nL cells slots Q pc lv (.ref x :: rest) g := fun H locs ls hP hD hS hl => lv_ifnonnull hC.1.1 hC.1.2.1 hdg ht (k H locs ls hP hD hS hl)
theorem jj_ifnnN (hC : JC p s m args meth c D cl A nL cc ret Ts own tys) {off : Int} (hdg : decode cc pc = .ok (.ifnonnull off, 3)) (hp : pc + 3 = pc2) (k : JJ wd p l e R s m args below meth c D cl A nL cells slots Q pc2 lv rest g) : JJ wd p l e R s m args below meth c D cl A nL cells slots Q pc lv (.null :: rest) g := fun H locs ls hP hD hS hl => lv_ifnonnullN hC.1.1 hC.1.2.1 hdg (by subst hp; exact k H locs ls hP hD hS hl)
theorem jj_ifn (hC : JC p s m args meth c D cl A nL cc ret Ts own tys) {x : Nat} {off : Int} (hdg : decode cc pc = .ok (.ifnull off, 3)) (hp : pc + 3 = pc2) (k : JJ wd p l e R s m args below meth c D cl A nL cells slots Q pc2 lv rest g) : JJ wd p l e R s m args below meth c D cl A nL cells slots Q pc lv (.ref x :: rest) g := fun H locs ls hP hD hS hl => lv_ifnull hC.1.1 hC.1.2.1 hdg (by subst hp; exact k H locs ls hP hD hS hl)
theorem jj_ifnN (hC : JC p s m args meth c D cl A nL cc ret Ts own tys) {off : Int} (tgt : Nat) (hdg : decode cc pc = .ok (.ifnull off, 3)) (ht : (pc : Int) + off = (tgt : Int)) (k : JJ wd p l e R s m args below meth c D cl A nL cells slots Q tgt lv rest g) : JJ wd p l e R s m args below meth c D cl A nL cells slots Q pc lv (.null :: rest) g := fun H locs ls hP hD hS hl => lv_ifnullN hC.1.1 hC.1.2.1 hdg ht (k H locs ls hP hD hS hl)
end JQ
set_option maxHeartbeats 4000000 in
set_option maxRecDepth 100000 in
/-- kept.become(now) -/
theorem jq_keep {p : Program} {l : Launch} {e : Env} {R : Room} {s : State} {m : MethodId} {args : Array Value} {below : List Frame} {meth : Method} {c : Code} {D : va_G} {A : Nat → Prop} {nL cells slots : Nat} {Q : State → Prop} {pc pc2 : Nat} {lv : List (Nat × Value)} {rest : List Value} {index : Nat} {cc : ByteArray} {ret : Option FieldType} {Ts : List Cond} {own : String} {cs : Nat → ClassId} {Y X : va_W} {ad : Nat → Nat} {g : cm_M} (hC : JC p s m args meth c D vwCl A nL cc ret Ts own (jt_tys cs)) {i : Nat} (hi : i < 4) {a : Nat → Nat} (ha : g.1.2.2.1 i = some a) {o : Nat → Nat} (ho : o = g.1.2.1) {k ks kw : Nat} (hok : hs_ok k ks kw (g.1.2.2.2.1 i) o g.2.2) {maxL : Nat} {bytes : ByteArray} {ret2 : Option FieldType} (cw : CallW R s args own RX4 index yX4_become bytes maxL ret2 wsX4_become (rm_X4_become (o 0) (o 2)) 4 (2 * o 0 + 2 * o 2) 1) (hW : (rest.map fun v => v.category).sum ≤ 8) (hdg : decode cc pc = .ok (.invokevirtual index, 3)) (hf : cells + 4 ≤ R.cells ∧ slots + (2 * o 0 + 2 * o 2) ≤ R.slots) (hp : pc + 3 = pc2) (kk : ∀ (a2 n2 : Nat → Nat) (g2 : jm_M), a2 0 = a 0 → hs_len k ks (g.1.2.2.2.1 i) o n2 → hs_same k ks kw g2 g.2.2 → JJ (wc_d Y X cs ad) p l e R s m args below meth c D vwCl A nL (cells + 4) (slots + (2 * o 0 + 2 * o 2)) Q pc2 lv rest (cd_put g.1 i a2 n2 g2, g.2)) : JJ (wc_d Y X cs ad) p l e R s m args below meth c D vwCl A nL cells slots Q pc lv (.ref (ad 3) :: .ref (a 0) :: rest) g := by
  subst ho
  refine jj_perm (wd2 := jp_d (wz cs g.1 Y X i)) (g2 := wc_W cs ad g ++ wk_K cs g.1 i) (wz_perm cs g.1 Y (wc_W cs ad g) X hi) ?_
  rw [wk_some ha]
  refine jp_sub ((wk_H cs a (g.1.2.2.2.1 i) (g.1.2.2.2.2 i) ++ wk_H cs (an_A ad g) g.1.2.1 g.2.2) ++ wo_W cs ad g) [61, 62, 63, 64, 65, 66, 67, 68, 69, 70, 71, 72, 73, 3, 4, 5, 30, 31, 32, 33, 34, 35, 36, 37, 38, 39, 0, 1, 2, 6, 7, 8, 9, 10, 11, 12, 13, 14, 15, 16, 17, 18, 19, 20, 21, 22, 23, 24, 25, 26, 27, 28, 29, 40, 41, 42, 43, 44, 45, 46, 47, 48, 49, 50, 51, 52, 53, 54, 55, 56, 57, 58, 59, 60] (by decide) rfl ?_
  refine jp_out _ _ rfl ?_
  refine jj_callVV (pc2 := pc2) (wd := jp_d (wo_W cs ad g ++ wz cs g.1 Y X i)) (C := RX4) (As := [.ref (ad 3)]) (rest := rest) hC 0 rfl rfl rfl (kb_X4 l D cs _ a (g.1.2.2.2.1 i) (g.1.2.2.2.2 i) (an_A ad g) g.1.2.1 g.2.2 k ks kw hok) cw rfl hW _ rfl hdg hf hp (fun w hw => ?_)
  obtain ⟨a2, n2, g2, h1, h2, h3, rfl⟩ := hw
  refine jp_in ((wk_H cs a2 n2 g2 ++ wk_H cs (an_A ad g) g.1.2.1 g.2.2) ++ wo_W cs ad g) rfl ?_
  refine jp_sub (wc_W cs ad g ++ wk_H cs a2 n2 g2) [26, 27, 28, 13, 14, 15, 29, 30, 31, 32, 33, 34, 35, 36, 37, 38, 39, 40, 41, 42, 43, 44, 45, 46, 47, 48, 49, 50, 51, 52, 16, 17, 18, 19, 20, 21, 22, 23, 24, 25, 53, 54, 55, 56, 57, 58, 59, 60, 61, 62, 63, 64, 65, 66, 67, 68, 69, 70, 71, 72, 73, 0, 1, 2, 3, 4, 5, 6, 7, 8, 9, 10, 11, 12] (by decide) rfl ?_
  refine jj_perm (wd2 := wc_d Y X cs ad) (g2 := (cd_put g.1 i a2 n2 g2, g.2)) ?_ (kk a2 n2 g2 (h1 0 (Or.inl (by decide))) h2 h3)
  have e := wz_perm cs (cd_put g.1 i a2 n2 g2) Y (wc_W cs ad g) X hi
  rw [wz_up cs g.1 Y X hi, wk_up] at e
  refine e.symm.trans ?_
  have e2 : wc_W cs ad (cd_put g.1 i a2 n2 g2, g.2) = wc_W cs ad g := by
    unfold wc_W cd_put
    have e3 : (fun j => ((va_up g.1.2.2.1 i (some a2)) j).map (fun z => z 0)) = (fun j => (g.1.2.2.1 j).map (fun z => z 0)) := by
      funext j
      by_cases hj : j = i
      · subst hj
        simp only [va_up, if_true, ha, Option.map_some]
        rw [h1 0 (Or.inl (by decide))]
      · simp only [va_up, if_neg hj]
    simp only [e3]
  show (Y ++ (wc_W cs ad g ++ (wc_X cs (cd_put g.1 i a2 n2 g2) ++ X))).Perm (Y ++ (wc_W cs ad (cd_put g.1 i a2 n2 g2, g.2) ++ (wc_X cs (cd_put g.1 i a2 n2 g2) ++ X)))
  rw [e2]
/-- the memory behind now.become(kept) -/
def cm_back (g : cm_M) (a2 n2 : Nat → Nat) (g2 : jm_M) : cm_M := ((fun d => a2 (8 + d), n2, g.1.2.2), g.2.1, hs_put g.2.2 g2)
set_option maxHeartbeats 4000000 in
set_option maxRecDepth 100000 in
theorem jq_back {p : Program} {l : Launch} {e : Env} {R : Room} {s : State} {m : MethodId} {args : Array Value} {below : List Frame} {meth : Method} {c : Code} {D : va_G} {A : Nat → Prop} {nL cells slots : Nat} {Q : State → Prop} {pc pc2 : Nat} {lv : List (Nat × Value)} {rest : List Value} {index : Nat} {cc : ByteArray} {ret : Option FieldType} {Ts : List Cond} {own : String} {cs : Nat → ClassId} {Y X : va_W} {ad : Nat → Nat} {g : cm_M} (hC : JC p s m args meth c D vwCl A nL cc ret Ts own (jt_tys cs)) {i : Nat} (hi : i < 4) {a : Nat → Nat} (ha : g.1.2.2.1 i = some a) {o : Nat → Nat} (ho : o = g.1.2.2.2.1 i) {k ks kw : Nat} (hok : hs_ok k ks kw g.1.2.1 o (g.1.2.2.2.2 i)) {maxL : Nat} {bytes : ByteArray} {ret2 : Option FieldType} (cw : CallW R s args own RX4 index yX4_become bytes maxL ret2 wsX4_become (rm_X4_become (o 0) (o 2)) 4 (2 * o 0 + 2 * o 2) 1) (hW : (rest.map fun v => v.category).sum ≤ 8) (hdg : decode cc pc = .ok (.invokevirtual index, 3)) (hf : cells + 4 ≤ R.cells ∧ slots + (2 * o 0 + 2 * o 2) ≤ R.slots) (hp : pc + 3 = pc2) (kk : ∀ (a2 n2 : Nat → Nat) (g2 : jm_M), hs_len k ks g.1.2.1 o n2 → hs_same k ks kw g2 (g.1.2.2.2.2 i) → JJ (wc_d Y X cs ad) p l e R s m args below meth c D vwCl A nL (cells + 4) (slots + (2 * o 0 + 2 * o 2)) Q pc2 lv rest (cm_back g a2 n2 g2)) : JJ (wc_d Y X cs ad) p l e R s m args below meth c D vwCl A nL cells slots Q pc lv (.ref (a 0) :: .ref (ad 3) :: rest) g := by
  subst ho
  refine jj_perm (wd2 := jp_d (wz cs g.1 Y X i)) (g2 := wc_W cs ad g ++ wk_K cs g.1 i) (wz_perm cs g.1 Y (wc_W cs ad g) X hi) ?_
  rw [wk_some ha]
  refine jp_sub ((wk_H cs (an_A ad g) g.1.2.1 g.2.2 ++ wk_H cs a (g.1.2.2.2.1 i) (g.1.2.2.2.2 i)) ++ wo_W cs ad g) [3, 4, 5, 30, 31, 32, 33, 34, 35, 36, 37, 38, 39, 61, 62, 63, 64, 65, 66, 67, 68, 69, 70, 71, 72, 73, 0, 1, 2, 6, 7, 8, 9, 10, 11, 12, 13, 14, 15, 16, 17, 18, 19, 20, 21, 22, 23, 24, 25, 26, 27, 28, 29, 40, 41, 42, 43, 44, 45, 46, 47, 48, 49, 50, 51, 52, 53, 54, 55, 56, 57, 58, 59, 60] (by decide) rfl ?_
  refine jp_out _ _ rfl ?_
  refine jj_callVV (pc2 := pc2) (wd := jp_d (wo_W cs ad g ++ wz cs g.1 Y X i)) (C := RX4) (As := [.ref (a 0)]) (rest := rest) hC 0 rfl rfl rfl (kb_X4 l D cs _ (an_A ad g) g.1.2.1 g.2.2 a (g.1.2.2.2.1 i) (g.1.2.2.2.2 i) k ks kw hok) cw rfl hW _ rfl hdg hf hp (fun w hw => ?_)
  obtain ⟨a2, n2, g2, h1, h2, h3, rfl⟩ := hw

  have e0 : a2 0 = ad 3 := h1 0 (by omega)
  have e1 : a2 1 = ad 4 := h1 1 (by omega)
  have e2 : a2 2 = ad 5 := h1 2 (by omega)
  have e3 : a2 3 = ad 30 := h1 3 (by omega)
  have e4 : a2 4 = ad 31 := h1 4 (by omega)
  have e5 : a2 5 = ad 32 := h1 5 (by omega)
  have e6 : a2 6 = ad 33 := h1 6 (by omega)
  have e7 : a2 7 = ad 34 := h1 7 (by omega)
  have e12 : a2 12 = ad 39 := h1 12 (by omega)
  have hw : wk_H cs a2 n2 g2 = [(ad 3, .inr (4, [.ref (ad 30), .ref (ad 31), .ref (ad 32), .ref (ad 33), .ref (ad 4), .ref (ad 5), .ref (ad 34), .int (g2 30 0), .int (g2 31 0), .int (g2 32 0), .int (g2 33 0)])), (ad 4, .inr (3, [.ref (a2 8), .ref (a2 9), .int (g2 36 0)])), (ad 5, .inr (6, [.ref (a2 10), .ref (a2 11), .ref (ad 39), .int (g2 40 0), .int (g2 41 0)])), (ad 30, .inl (cs 0, 128, .inl (g2 25))), (ad 31, .inl (cs 0, 128, .inl (g2 26))), (ad 32, .inl (cs 0, 10, .inl (g2 27))), (ad 33, .inl (cs 0, 420, .inl (g2 28))), (ad 34, .inl (cs 0, 5, .inl (g2 29))), (a2 8, .inl (cs 0, (n2 0), .inl (g2 34))), (a2 9, .inl (cs 0, (n2 1), .inl (g2 35))), (a2 10, .inl (cs 0, (n2 2), .inl (g2 37))), (a2 11, .inl (cs 0, (n2 3), .inl (g2 38))), (ad 39, .inl (cs 0, 40, .inl (g2 39)))] := by
    unfold wk_H
    simp only [e0, e1, e2, e3, e4, e5, e6, e7, e12]
  rw [hw]
  refine jp_in (([(ad 3, .inr (4, [.ref (ad 30), .ref (ad 31), .ref (ad 32), .ref (ad 33), .ref (ad 4), .ref (ad 5), .ref (ad 34), .int (g2 30 0), .int (g2 31 0), .int (g2 32 0), .int (g2 33 0)])), (ad 4, .inr (3, [.ref (a2 8), .ref (a2 9), .int (g2 36 0)])), (ad 5, .inr (6, [.ref (a2 10), .ref (a2 11), .ref (ad 39), .int (g2 40 0), .int (g2 41 0)])), (ad 30, .inl (cs 0, 128, .inl (g2 25))), (ad 31, .inl (cs 0, 128, .inl (g2 26))), (ad 32, .inl (cs 0, 10, .inl (g2 27))), (ad 33, .inl (cs 0, 420, .inl (g2 28))), (ad 34, .inl (cs 0, 5, .inl (g2 29))), (a2 8, .inl (cs 0, (n2 0), .inl (g2 34))), (a2 9, .inl (cs 0, (n2 1), .inl (g2 35))), (a2 10, .inl (cs 0, (n2 2), .inl (g2 37))), (a2 11, .inl (cs 0, (n2 3), .inl (g2 38))), (ad 39, .inl (cs 0, 40, .inl (g2 39)))] ++ wk_H cs a (g.1.2.2.2.1 i) (g.1.2.2.2.2 i)) ++ wo_W cs ad g) rfl ?_
  refine jp_sub (wc_W cs ad (cm_back g a2 n2 g2) ++ wk_H cs a (g.1.2.2.2.1 i) (g.1.2.2.2.2 i)) [26, 27, 28, 0, 1, 2, 29, 30, 31, 32, 33, 34, 35, 36, 37, 38, 39, 40, 41, 42, 43, 44, 45, 46, 47, 48, 49, 50, 51, 52, 3, 4, 5, 6, 7, 8, 9, 10, 11, 12, 53, 54, 55, 56, 57, 58, 59, 60, 61, 62, 63, 64, 65, 66, 67, 68, 69, 70, 71, 72, 73, 13, 14, 15, 16, 17, 18, 19, 20, 21, 22, 23, 24, 25] (by decide) rfl ?_
  refine jj_perm (wd2 := wc_d Y X cs ad) (g2 := cm_back g a2 n2 g2) ?_ (kk a2 n2 g2 h2 h3)
  have e := wz_perm cs (cm_back g a2 n2 g2).1 Y (wc_W cs ad (cm_back g a2 n2 g2)) X hi
  have e9 : wk_K cs (cm_back g a2 n2 g2).1 i = wk_H cs a (g.1.2.2.2.1 i) (g.1.2.2.2.2 i) := wk_some (d := (cm_back g a2 n2 g2).1) ha
  rw [e9] at e
  exact e.symm
/-- the lengths in a new house -/
def hs_n0 : Nat → Nat := fun d => match d with
  | 0 => 16
  | 1 => 16
  | _ => 32
set_option maxHeartbeats 4000000 in
set_option maxRecDepth 100000 in
/-- kept[i] = new Houses() -/
theorem jq_make {p : Program} {l : Launch} {e : Env} {R : Room} {s : State} {m : MethodId} {args : Array Value} {below : List Frame} {meth : Method} {c : Code} {D : va_G} {A : Nat → Prop} {nL cells slots : Nat} {Q : State → Prop} {pc pc2 : Nat} {lv : List (Nat × Value)} {rest : List Value} {index : Nat} {cc : ByteArray} {ret : Option FieldType} {Ts : List Cond} {own : String} {cs : Nat → ClassId} {Y X : va_W} {ad : Nat → Nat} {g : cm_M} (hC : JC p s m args meth c D vwCl A nL cc ret Ts own (jt_tys cs)) {i i3 maxL : Nat} {bytes : ByteArray} {host : String} (hi : i < 4) (hn : g.1.2.2.1 i = none) (hin : ∀ w ∈ u_ws RX4 TX4 11, w ∈ Ts) (hw1 : Cond.classLink own index RX4 ∈ Ts) (hw2 : Cond.instantiable RX4 11 ∈ Ts) (hw3 : Cond.initialized RX4 ∈ Ts) (hd1 : decode cc pc = .ok (.new index, 3)) (hd2 : decode cc (pc + 3) = .ok (.dup, 1)) (hd3 : decode cc (pc + 4) = .ok (.invokespecial i3, 3)) (hd4 : decode cc (pc + 7) = .ok (.aastore, 1)) (cw : va_CN R s args own i3 yX4_init host bytes maxL none wsX4_init rm_X4_init 12 835 0 ∧ yX4_init.name = "<init>" ∧ (Cond.instanceMethod yX4_init).before args s = true) (hf : cells + 13 ≤ R.cells ∧ slots + 846 ≤ R.slots) (kk : ∀ a2 : Nat → Nat, JJ (wc_d Y X cs ad) p l e R s m args below meth c D vwCl A nL (cells + 13) (slots + 846) Q (pc + 8) lv [] (cd_put g.1 i a2 hs_n0 (fun _ _ => 0), g.2)) : JJ (wc_d Y X cs ad) p l e R s m args below meth c D vwCl A nL cells slots Q pc lv [.int (nI i), .ref (ad 11)] g := by
  refine jj_newo (pc2 := pc + 3) hC hin tyX4 tyX4_ok hw1 hw2 hw3 (ci := 4) rfl (fs := [.null, .null, .null, .null, .null, .null, .null, .int 0, .int 0, .int 0, .int 0]) (fun j hj => by rcases (show j = 0 ∨ j = 1 ∨ j = 2 ∨ j = 3 ∨ j = 4 ∨ j = 5 ∨ j = 6 ∨ j = 7 ∨ j = 8 ∨ j = 9 ∨ j = 10 by omega) with rfl | rfl | rfl | rfl | rfl | rfl | rfl | rfl | rfl | rfl | rfl <;> rfl) ⟨by omega, by omega⟩ hd1 rfl (fun q => ?_)
  refine jj_perm (wd2 := jp_d (wc_d Y X cs ad g)) (g2 := [(q, .inr (4, [.null, .null, .null, .null, .null, .null, .null, .int 0, .int 0, .int 0, .int 0]))]) List.perm_append_comm ?_
  refine jj_dup (pc2 := pc + 4) hC hd2 rfl rfl ?_
  refine jj_callIVN (pc2 := pc + 7) (R := R) (cells := cells + 1) (slots := slots + 11) (wd := jp_d (wc_d Y X cs ad g)) (As := []) (rest := [.ref q, .int (nI i), .ref (ad 11)]) hC (ki_X4_init l D cs _ q) cw rfl (Nat.le_of_ble_eq_true rfl) _ rfl hd3 ⟨by omega, by omega⟩ rfl (fun w hw => ?_)
  obtain ⟨q1, q2, q3, q4, q5, q6, q7, q8, q9, q10, q11, q12, rfl⟩ := hw
  have hrow : (wc_W cs ad g).set 11 (ad 11, .inl (cs 3, 4, .inr (.inr (.inr (.inr (va_up (fun j => (g.1.2.2.1 j).map (fun z => z 0)) (nI i).toNatClampNeg (some q))))))) = wc_W cs ad (cd_put g.1 i (fun z => match z with | 0 => q | 1 => q5 | 2 => q8 | 3 => q1 | 4 => q2 | 5 => q3 | 6 => q4 | 7 => q12 | 8 => q6 | 9 => q7 | 10 => q9 | 11 => q10 | _ => q11) hs_n0 (fun _ _ => 0), g.2) := by
    have e3 : va_up (fun j => (g.1.2.2.1 j).map (fun z => z 0)) (nI i).toNatClampNeg (some q) = (fun j => ((va_up g.1.2.2.1 i (some (fun z => match z with | 0 => q | 1 => q5 | 2 => q8 | 3 => q1 | 4 => q2 | 5 => q3 | 6 => q4 | 7 => q12 | 8 => q6 | 9 => q7 | 10 => q9 | 11 => q10 | _ => q11))) j).map (fun z => z 0)) := by
      rw [nI_clamp (by omega)]
      funext j
      by_cases hj : j = i
      · subst hj
        simp only [va_up, if_true, Option.map_some]
      · simp only [va_up, if_neg hj]
    rw [e3]
    rfl
  refine jj_conv (wd2 := jl_d) (g2 := [(q, .inr (4, [.ref q1, .ref q2, .ref q3, .ref q4, .ref q5, .ref q8, .ref q12, .int 0, .int 0, .int 0, .int 0])), (q8, .inr (6, [.ref q9, .ref q10, .ref q11, .int 0, .int 0])), (q9, .inl (cs 0, 32, .inl (fun _ => 0))), (q10, .inl (cs 0, 32, .inl (fun _ => 0))), (q11, .inl (cs 0, 40, .inl (fun _ => 0))), (q5, .inr (3, [.ref q6, .ref q7, .int 0])), (q6, .inl (cs 0, 16, .inl (fun _ => 0))), (q7, .inl (cs 0, 16, .inl (fun _ => 0))), (q1, .inl (cs 0, 128, .inl (fun _ => 0))), (q2, .inl (cs 0, 128, .inl (fun _ => 0))), (q3, .inl (cs 0, 10, .inl (fun _ => 0))), (q4, .inl (cs 0, 420, .inl (fun _ => 0))), (q12, .inl (cs 0, 5, .inl (fun _ => 0)))] ++ wc_d Y X cs ad g) rfl ?_
  refine jj_astq (pc2 := pc + 8) (wd := jl_d) hC (13 + (Y.length + 11)) 3 0 4 (r := (RX4, TX4, 11)) (f := fun j => (g.1.2.2.1 j).map (fun z => z 0)) (n := 4) (cA := cs 3) (a := ad 11) ?_ rfl rfl rfl (vp_in_nI hi (by omega)) ([(q, .inr (4, [.ref q1, .ref q2, .ref q3, .ref q4, .ref q5, .ref q8, .ref q12, .int 0, .int 0, .int 0, .int 0])), (q8, .inr (6, [.ref q9, .ref q10, .ref q11, .int 0, .int 0])), (q9, .inl (cs 0, 32, .inl (fun _ => 0))), (q10, .inl (cs 0, 32, .inl (fun _ => 0))), (q11, .inl (cs 0, 40, .inl (fun _ => 0))), (q5, .inr (3, [.ref q6, .ref q7, .int 0])), (q6, .inl (cs 0, 16, .inl (fun _ => 0))), (q7, .inl (cs 0, 16, .inl (fun _ => 0))), (q1, .inl (cs 0, 128, .inl (fun _ => 0))), (q2, .inl (cs 0, 128, .inl (fun _ => 0))), (q3, .inl (cs 0, 10, .inl (fun _ => 0))), (q4, .inl (cs 0, 420, .inl (fun _ => 0))), (q12, .inl (cs 0, 5, .inl (fun _ => 0)))] ++ (Y ++ (wc_W cs ad (cd_put g.1 i (fun z => match z with | 0 => q | 1 => q5 | 2 => q8 | 3 => q1 | 4 => q2 | 5 => q3 | 6 => q4 | 7 => q12 | 8 => q6 | 9 => q7 | 10 => q9 | 11 => q10 | _ => q11) hs_n0 (fun _ _ => 0), g.2) ++ (wc_X cs g.1 ++ X)))) ?_ hd4 rfl ?_
  · show (([(q, .inr (4, [.ref q1, .ref q2, .ref q3, .ref q4, .ref q5, .ref q8, .ref q12, .int 0, .int 0, .int 0, .int 0])), (q8, .inr (6, [.ref q9, .ref q10, .ref q11, .int 0, .int 0])), (q9, .inl (cs 0, 32, .inl (fun _ => 0))), (q10, .inl (cs 0, 32, .inl (fun _ => 0))), (q11, .inl (cs 0, 40, .inl (fun _ => 0))), (q5, .inr (3, [.ref q6, .ref q7, .int 0])), (q6, .inl (cs 0, 16, .inl (fun _ => 0))), (q7, .inl (cs 0, 16, .inl (fun _ => 0))), (q1, .inl (cs 0, 128, .inl (fun _ => 0))), (q2, .inl (cs 0, 128, .inl (fun _ => 0))), (q3, .inl (cs 0, 10, .inl (fun _ => 0))), (q4, .inl (cs 0, 420, .inl (fun _ => 0))), (q12, .inl (cs 0, 5, .inl (fun _ => 0)))] : va_W) ++ wc_d Y X cs ad g)[13 + (Y.length + 11)]? = _
    rw [List.getElem?_append_right (Nat.le_add_right 13 _)]
    show (wc_d Y X cs ad g)[13 + (Y.length + 11) - 13]? = _
    rw [Nat.add_sub_cancel_left]
    exact jx_at (V := wc_W cs ad g) rfl
  · show (([(q, .inr (4, [.ref q1, .ref q2, .ref q3, .ref q4, .ref q5, .ref q8, .ref q12, .int 0, .int 0, .int 0, .int 0])), (q8, .inr (6, [.ref q9, .ref q10, .ref q11, .int 0, .int 0])), (q9, .inl (cs 0, 32, .inl (fun _ => 0))), (q10, .inl (cs 0, 32, .inl (fun _ => 0))), (q11, .inl (cs 0, 40, .inl (fun _ => 0))), (q5, .inr (3, [.ref q6, .ref q7, .int 0])), (q6, .inl (cs 0, 16, .inl (fun _ => 0))), (q7, .inl (cs 0, 16, .inl (fun _ => 0))), (q1, .inl (cs 0, 128, .inl (fun _ => 0))), (q2, .inl (cs 0, 128, .inl (fun _ => 0))), (q3, .inl (cs 0, 10, .inl (fun _ => 0))), (q4, .inl (cs 0, 420, .inl (fun _ => 0))), (q12, .inl (cs 0, 5, .inl (fun _ => 0)))] : va_W) ++ wc_d Y X cs ad g).set (13 + (Y.length + 11)) _ = _
    rw [List.set_append_right _ _ (Nat.le_add_right 13 _)]
    show ([(q, .inr (4, [.ref q1, .ref q2, .ref q3, .ref q4, .ref q5, .ref q8, .ref q12, .int 0, .int 0, .int 0, .int 0])), (q8, .inr (6, [.ref q9, .ref q10, .ref q11, .int 0, .int 0])), (q9, .inl (cs 0, 32, .inl (fun _ => 0))), (q10, .inl (cs 0, 32, .inl (fun _ => 0))), (q11, .inl (cs 0, 40, .inl (fun _ => 0))), (q5, .inr (3, [.ref q6, .ref q7, .int 0])), (q6, .inl (cs 0, 16, .inl (fun _ => 0))), (q7, .inl (cs 0, 16, .inl (fun _ => 0))), (q1, .inl (cs 0, 128, .inl (fun _ => 0))), (q2, .inl (cs 0, 128, .inl (fun _ => 0))), (q3, .inl (cs 0, 10, .inl (fun _ => 0))), (q4, .inl (cs 0, 420, .inl (fun _ => 0))), (q12, .inl (cs 0, 5, .inl (fun _ => 0)))] : va_W) ++ (wc_d Y X cs ad g).set (13 + (Y.length + 11) - 13) _ = _
    rw [Nat.add_sub_cancel_left]
    unfold wc_d
    rw [jx_set (V := wc_W cs ad g) (Nat.le_of_ble_eq_true rfl) hrow]
    rfl
  refine jj_conv (wd2 := jp_d (Y ++ (wc_W cs ad (cd_put g.1 i (fun z => match z with | 0 => q | 1 => q5 | 2 => q8 | 3 => q1 | 4 => q2 | 5 => q3 | 6 => q4 | 7 => q12 | 8 => q6 | 9 => q7 | 10 => q9 | 11 => q10 | _ => q11) hs_n0 (fun _ _ => 0), g.2) ++ (wc_X cs g.1 ++ X)))) (g2 := [(q, .inr (4, [.ref q1, .ref q2, .ref q3, .ref q4, .ref q5, .ref q8, .ref q12, .int 0, .int 0, .int 0, .int 0])), (q8, .inr (6, [.ref q9, .ref q10, .ref q11, .int 0, .int 0])), (q9, .inl (cs 0, 32, .inl (fun _ => 0))), (q10, .inl (cs 0, 32, .inl (fun _ => 0))), (q11, .inl (cs 0, 40, .inl (fun _ => 0))), (q5, .inr (3, [.ref q6, .ref q7, .int 0])), (q6, .inl (cs 0, 16, .inl (fun _ => 0))), (q7, .inl (cs 0, 16, .inl (fun _ => 0))), (q1, .inl (cs 0, 128, .inl (fun _ => 0))), (q2, .inl (cs 0, 128, .inl (fun _ => 0))), (q3, .inl (cs 0, 10, .inl (fun _ => 0))), (q4, .inl (cs 0, 420, .inl (fun _ => 0))), (q12, .inl (cs 0, 5, .inl (fun _ => 0)))]) rfl ?_
  refine jp_sub (wk_H cs (fun z => match z with | 0 => q | 1 => q5 | 2 => q8 | 3 => q1 | 4 => q2 | 5 => q3 | 6 => q4 | 7 => q12 | 8 => q6 | 9 => q7 | 10 => q9 | 11 => q10 | _ => q11) hs_n0 (fun _ _ => 0)) [0, 5, 1, 8, 9, 10, 11, 12, 6, 7, 2, 3, 4] (by decide) rfl ?_
  refine jj_perm (wd2 := wc_d Y X cs ad) (g2 := (cd_put g.1 i (fun z => match z with | 0 => q | 1 => q5 | 2 => q8 | 3 => q1 | 4 => q2 | 5 => q3 | 6 => q4 | 7 => q12 | 8 => q6 | 9 => q7 | 10 => q9 | 11 => q10 | _ => q11) hs_n0 (fun _ _ => 0), g.2)) ?_ (kk (fun z => match z with | 0 => q | 1 => q5 | 2 => q8 | 3 => q1 | 4 => q2 | 5 => q3 | 6 => q4 | 7 => q12 | 8 => q6 | 9 => q7 | 10 => q9 | 11 => q10 | _ => q11))
  have e1 := wz_perm cs g.1 Y (wc_W cs ad (cd_put g.1 i (fun z => match z with | 0 => q | 1 => q5 | 2 => q8 | 3 => q1 | 4 => q2 | 5 => q3 | 6 => q4 | 7 => q12 | 8 => q6 | 9 => q7 | 10 => q9 | 11 => q10 | _ => q11) hs_n0 (fun _ _ => 0), g.2)) X hi
  rw [wk_none hn, List.append_nil] at e1
  have e2 := wz_perm cs (cd_put g.1 i (fun z => match z with | 0 => q | 1 => q5 | 2 => q8 | 3 => q1 | 4 => q2 | 5 => q3 | 6 => q4 | 7 => q12 | 8 => q6 | 9 => q7 | 10 => q9 | 11 => q10 | _ => q11) hs_n0 (fun _ _ => 0)) Y (wc_W cs ad (cd_put g.1 i (fun z => match z with | 0 => q | 1 => q5 | 2 => q8 | 3 => q1 | 4 => q2 | 5 => q3 | 6 => q4 | 7 => q12 | 8 => q6 | 9 => q7 | 10 => q9 | 11 => q10 | _ => q11) hs_n0 (fun _ _ => 0), g.2)) X hi
  rw [wz_up cs g.1 Y X hi, wk_up] at e2
  refine ((e1.append_left (wk_H cs (fun z => match z with | 0 => q | 1 => q5 | 2 => q8 | 3 => q1 | 4 => q2 | 5 => q3 | 6 => q4 | 7 => q12 | 8 => q6 | 9 => q7 | 10 => q9 | 11 => q10 | _ => q11) hs_n0 (fun _ _ => 0))).trans ?_).trans e2.symm
  rw [List.append_assoc]
  exact pm_ca _ _ _
theorem cd_put_put (d : cm_D) (i : Nat) (a n : Nat → Nat) (g : jm_M) (a2 n2 : Nat → Nat) (g2 : jm_M) : cd_put (cd_put d i a n g) i a2 n2 g2 = cd_put d i a2 n2 g2 := by
  unfold cd_put
  simp only [bx_uu]
theorem ri_of {x : Int32} (h0 : ¬ x < 0) (h4 : x < 4) : ∃ i : Nat, i < 4 ∧ x = nI i := by
  obtain ⟨j, hj, rfl⟩ := nI_of h0
  exact ⟨j, (nI_ltI hj (by decide)).mp h4, rfl⟩
/-- image(i): kept i holds what now holds -/
def vc_X10_image (MC MS : Nat) (a1 : Int32) (g0 : cm_M) (Post : Int32 → cm_M → Prop) : Prop := ((a1 < 0 ∨ ¬ a1 < 4) → Post (-1) g0) ∧ ∀ i : Nat, i < 4 → a1 = nI i → ∃ k ks kw : Nat, 17 ≤ MC ∧ 846 + (2 * g0.1.2.1 0 + 2 * g0.1.2.1 2) ≤ MS ∧ hs_ok k ks kw (match g0.1.2.2.1 i with | none => hs_n0 | some _ => g0.1.2.2.2.1 i) g0.1.2.1 g0.2.2 ∧ ∀ (a2 n2 : Nat → Nat) (g2 : jm_M), hs_len k ks (match g0.1.2.2.1 i with | none => hs_n0 | some _ => g0.1.2.2.2.1 i) g0.1.2.1 n2 → hs_same k ks kw g2 g0.2.2 → Post 1 (cm_a (cm_a (cd_put g0.1 i a2 n2 g2, g0.2) 0 (nI i) (g0.2.2 12 0)) 1 (nI i) (g0.2.2 13 0))
/-- restore(i) -/
def vc_X10_restore (MC MS : Nat) (a1 : Int32) (g0 : cm_M) (Post : Int32 → cm_M → Prop) : Prop := ((a1 < 0 ∨ ¬ a1 < 4) → Post (-1) g0) ∧ ∀ i : Nat, i < 4 → a1 = nI i → (g0.1.2.2.1 i = none → Post (-2) g0) ∧ ∀ a : Nat → Nat, g0.1.2.2.1 i = some a → ((¬ g0.2.2 0 i = g0.2.2 12 0 ∨ ¬ g0.2.2 1 i = g0.2.2 13 0) → Post (-2) g0) ∧ (g0.2.2 0 i = g0.2.2 12 0 → g0.2.2 1 i = g0.2.2 13 0 → ∃ k ks kw : Nat, 4 ≤ MC ∧ 2 * g0.1.2.2.2.1 i 0 + 2 * g0.1.2.2.2.1 i 2 ≤ MS ∧ hs_ok k ks kw g0.1.2.1 (g0.1.2.2.2.1 i) (g0.1.2.2.2.2 i) ∧ ∀ (a2 n2 : Nat → Nat) (g2 : jm_M), hs_len k ks g0.1.2.1 (g0.1.2.2.2.1 i) n2 → hs_same k ks kw g2 (g0.1.2.2.2.2 i) → Post 1 (cm_back g0 a2 n2 g2))
theorem hi_X10_image_X10 : ∀ w ∈ u_ws RX10 TX10 13, w ∈ wsX10_image := fun _ h => List.mem_cons_of_mem _ (List.mem_append_left _ (List.mem_append_left _ (List.mem_append_left _ (List.mem_append_left _ (List.mem_append_right _ h)))))
theorem lk_X10_image_1 : Cond.fieldLink RX10 30 "PartedHouse" "kept" "[LPartedHouse$Houses;" ∈ wsX10_image := List.mem_of_getElem? (i := 1) rfl
theorem lk_X10_image_5 : Cond.fieldLink RX10 26 "PartedHouse" "now" "LPartedHouse$Houses;" ∈ wsX10_image := List.mem_of_getElem? (i := 5) rfl
theorem lk_X10_image_6 : Cond.fieldLink RX10 34 "PartedHouse" "keptModules" "[I" ∈ wsX10_image := List.mem_of_getElem? (i := 6) rfl
theorem lk_X10_image_7 : Cond.fieldLink RX10 12 "PartedHouse" "text" "LPartedHouse$Text;" ∈ wsX10_image := List.mem_of_getElem? (i := 7) rfl
theorem hi_X10_image_X9 : ∀ w ∈ u_ws RX9 TX9 11, w ∈ wsX10_image := fun _ h => List.mem_cons_of_mem _ (List.mem_append_left _ (List.mem_append_left _ (List.mem_append_right _ h)))
theorem lk_X10_image_8 : Cond.fieldLink RX10 92 "PartedHouse$Text" "modules" "I" ∈ wsX10_image := List.mem_of_getElem? (i := 8) rfl
theorem lk_X10_image_9 : Cond.fieldLink RX10 38 "PartedHouse" "keptTables" "[I" ∈ wsX10_image := List.mem_of_getElem? (i := 9) rfl
theorem lk_X10_image_10 : Cond.fieldLink RX10 104 "PartedHouse$Text" "tables" "I" ∈ wsX10_image := List.mem_of_getElem? (i := 10) rfl
theorem lk_X10_image_4 : Cond.initialized RX4 ∈ wsX10_image := List.mem_of_getElem? (i := 4) rfl
theorem lk_X10_image_11 : Cond.instanceMethod yX4_init ∈ wsX10_image := List.mem_of_getElem? (i := 11) rfl
theorem hi_X10_image_X4 : ∀ w ∈ u_ws RX4 TX4 11, w ∈ wsX10_image := fun _ h => List.mem_cons_of_mem _ (List.mem_append_left _ (List.mem_append_left _ (List.mem_append_left _ (List.mem_append_right _ h))))
theorem lk_X10_image_2 : Cond.classLink RX10 23 RX4 ∈ wsX10_image := List.mem_of_getElem? (i := 2) rfl
theorem lk_X10_image_3 : Cond.instantiable RX4 11 ∈ wsX10_image := List.mem_of_getElem? (i := 3) rfl
abbrev rm_X10_image (MC MS : Nat) : Room := { frames := 6, cells := MC, slots := MS, locals := 200 }
set_option maxHeartbeats 4000000 in
set_option maxRecDepth 100000 in
theorem kc_X10_image (l : Launch) (D : va_G) (cs : Nat → ClassId) (Y X : va_W) (ad : Nat → Nat) (MC MS : Nat) (a1 : Int32) (g0 : cm_M) (Post : Int32 → cm_M → Prop) (hV : vc_X10_image MC MS a1 g0 Post) : JI (wc_d Y X cs ad) D vwCl (jt_tys cs) l yX10_image wsX10_image (rm_X10_image MC MS) MC MS [.ref (ad 0), .int a1] g0 Post := by
  refine jj_metI (cc := cX10_image) (nL := 2) (ret := (some .int)) (by decide) rfl (Nat.le_of_ble_eq_true rfl) [(0, .ref (ad 0)), (1, .int a1)] rfl ?_
  intro p e s m args below meth c hC hnm
  rw [vc_X10_image] at hV
  refine jj_iload_n (pc2 := 1) hC dX10_image_0 rfl 1 rfl rfl ?_
  refine jj_if_lt (pc2 := 4) hC 9 dX10_image_1 (by decide) rfl (fun h => ?_) (fun h0 => ?_)
  · refine jj_iconst (pc2 := 10) hC (-1) dX10_image_9 (by decide) rfl ?_
    refine jj_widen (k := MC) (n := MS) (Nat.zero_le _) (Nat.zero_le _) ?_
    exact jj_iret hC dX10_image_10 (hV.1 (Or.inl h))
  refine jj_iload_n (pc2 := 5) hC dX10_image_4 rfl 1 rfl rfl ?_
  refine jj_iconst (pc2 := 6) hC 4 dX10_image_5 (by decide) rfl ?_
  refine jj_icmp_lt (pc2 := 9) hC 11 dX10_image_6 (by decide) rfl (fun h4 => ?_) (fun h => ?_)
  rotate_left
  · refine jj_iconst (pc2 := 10) hC (-1) dX10_image_9 (by decide) rfl ?_
    refine jj_widen (k := MC) (n := MS) (Nat.zero_le _) (Nat.zero_le _) ?_
    exact jj_iret hC dX10_image_10 (hV.1 (Or.inr h))
  obtain ⟨i, hi, rfl⟩ := ri_of h0 h4
  have hV := hV.2 i hi rfl
  obtain ⟨k, ks, kw, hMC, hMS, hok, hV⟩ := hV
  have tail : ∀ (g : cm_M) (b : Nat → Nat) (ce sl : Nat), g.2 = g0.2 → g.1.2.1 = g0.1.2.1 → g.1.2.2.1 i = some b → (∀ a2 n2 g2, cd_put g.1 i a2 n2 g2 = cd_put g0.1 i a2 n2 g2) → g.1.2.2.2.1 i = (match g0.1.2.2.1 i with | none => hs_n0 | some _ => g0.1.2.2.2.1 i) → ce + 4 ≤ MC → sl + (2 * g0.1.2.1 0 + 2 * g0.1.2.1 2) ≤ MS → JJ (wc_d Y X cs ad) p l e (rm_X10_image MC MS) s m args below meth c D vwCl (va_A (wc_d Y X cs ad g0) s.heap.size) 2 ce sl (MQ below (jj_QI (wc_d Y X cs ad) D vwCl (jt_tys cs) g0 s.heap.size Post) args s MC MS (va_A (wc_d Y X cs ad g0) s.heap.size)) 33 [(0, .ref (ad 0)), (1, .int (nI i))] [] g := by
    intro g b ce sl hg2 hg1 hb hcp hln hce hsl
    refine jj_aload_n (pc2 := 34) hC dX10_image_33 rfl 0 rfl rfl ?_
    refine cg_M_kept (pc2 := 37) hC hi_X10_image_X10 lk_X10_image_1 dX10_image_34 rfl ?_
    refine jj_iload_n (pc2 := 38) hC dX10_image_37 rfl 1 rfl rfl ?_
    refine jj_aldq (pc2 := 39) (wd := wc_d Y X cs ad) (g := g) hC (Y.length + 11) 3 (jx_at (V := wc_W cs ad g) rfl) rfl (vp_in_nI hi (by omega)) dX10_image_38 rfl ?_
    rw [nI_clamp (show i < 2 ^ 31 by omega), hb]
    show JJ (wc_d Y X cs ad) p l e (rm_X10_image MC MS) s m args below meth c D vwCl (va_A (wc_d Y X cs ad g0) s.heap.size) 2 ce sl _ 39 _ [.ref (b 0)] g
    refine jj_aload_n (pc2 := 40) hC dX10_image_39 rfl 0 rfl rfl ?_
    refine cg_M_now (pc2 := 43) hC hi_X10_image_X10 lk_X10_image_5 dX10_image_40 rfl ?_
    refine jq_keep (pc2 := 46) (o := g0.1.2.1) (k := k) (ks := ks) (kw := kw) hC hi hb hg1.symm (by rw [hln, hg2]; exact hok) (cwV 1 hC.1.2.2.2.2 gX10_image_X4_become rfl rfl rfl (by decide +kernel) ⟨by show 2 + 1 ≤ 6; omega, by show 8 + (2 + 11) + 61 ≤ 200; omega⟩) (Nat.le_of_ble_eq_true rfl) dX10_image_43 ⟨by show ce + 4 ≤ MC; omega, by show sl + _ ≤ MS; omega⟩ rfl (fun a2 n2 g2 ha2 hl2 hs2 => ?_)
    rw [hln] at hl2
    rw [hg2] at hs2
    have hV := hV a2 n2 g2 hl2 hs2
    rw [hcp a2 n2 g2, hg2]
    refine jj_aload_n (pc2 := 47) hC dX10_image_46 rfl 0 rfl rfl ?_
    refine cg_M_keptModules (pc2 := 50) hC hi_X10_image_X10 lk_X10_image_6 dX10_image_47 rfl ?_
    refine jj_iload_n (pc2 := 51) hC dX10_image_50 rfl 1 rfl rfl ?_
    refine jj_aload_n (pc2 := 52) hC dX10_image_51 rfl 0 rfl rfl ?_
    refine cg_M_text (pc2 := 55) hC hi_X10_image_X10 lk_X10_image_7 dX10_image_52 rfl ?_
    refine cg_T_modules (pc2 := 58) hC hi_X10_image_X9 lk_X10_image_8 dX10_image_55 rfl ?_
    refine ct_M_keptModules (pc2 := 59) hC (vp_in_nI hi (by omega)) dX10_image_58 rfl (fun ga ega => ?_)
    refine jj_aload_n (pc2 := 60) hC dX10_image_59 rfl 0 rfl rfl ?_
    refine cg_M_keptTables (pc2 := 63) hC hi_X10_image_X10 lk_X10_image_9 dX10_image_60 rfl ?_
    refine jj_iload_n (pc2 := 64) hC dX10_image_63 rfl 1 rfl rfl ?_
    refine jj_aload_n (pc2 := 65) hC dX10_image_64 rfl 0 rfl rfl ?_
    refine cg_M_text (pc2 := 68) hC hi_X10_image_X10 lk_X10_image_7 dX10_image_65 rfl ?_
    refine cg_T_tables (pc2 := 71) hC hi_X10_image_X9 lk_X10_image_10 dX10_image_68 rfl ?_
    refine ct_M_keptTables (pc2 := 72) hC (vp_in_nI hi (by omega)) dX10_image_71 rfl (fun gb egb => ?_)
    refine jj_iconst (pc2 := 73) hC 1 dX10_image_72 (by decide) rfl ?_
    refine jj_widen (k := MC) (n := MS) (by omega) (by omega) ?_
    subst egb; subst ega
    exact jj_iret hC dX10_image_73 hV
  refine jj_aload_n (pc2 := 12) hC dX10_image_11 rfl 0 rfl rfl ?_
  refine cg_M_kept (pc2 := 15) hC hi_X10_image_X10 lk_X10_image_1 dX10_image_12 rfl ?_
  refine jj_iload_n (pc2 := 16) hC dX10_image_15 rfl 1 rfl rfl ?_
  refine jj_aldq (pc2 := 17) (wd := wc_d Y X cs ad) (g := g0) hC (Y.length + 11) 3 (jx_at (V := wc_W cs ad g0) rfl) rfl (vp_in_nI hi (by omega)) dX10_image_16 rfl ?_
  rw [nI_clamp (show i < 2 ^ 31 by omega)]
  cases hk : g0.1.2.2.1 i with
  | none =>
    refine jj_ifnnN (pc2 := 20) hC dX10_image_17 rfl ?_
    refine jj_aload_n (pc2 := 21) hC dX10_image_20 rfl 0 rfl rfl ?_
    refine cg_M_kept (pc2 := 24) hC hi_X10_image_X10 lk_X10_image_1 dX10_image_21 rfl ?_
    refine jj_iload_n (pc2 := 25) hC dX10_image_24 rfl 1 rfl rfl ?_
    refine jq_make (index := 23) (i3 := 25) (rest := []) (pc2 := 0) hC hi hk hi_X10_image_X4 lk_X10_image_2 lk_X10_image_3 lk_X10_image_4 dX10_image_25 dX10_image_28 dX10_image_29 dX10_image_32 ⟨va_cnB (host := "PartedHouse") 0 hC.1.2.2.2.2 gX10_image_X4_init_n25 rfl rfl rfl (hC.2.1.2.1 _ (List.mem_of_getElem? (i := 2) rfl)) (hC.1.2.2.2.2 _ lk_X10_image_4) (by decide +kernel) ⟨by show 2 + 1 ≤ 6; omega, by show 8 + (1 + 11) + 60 ≤ 200; omega⟩, rfl, hC.1.2.2.2.2 _ lk_X10_image_11⟩ ⟨by show 0 + 13 ≤ MC; omega, by show 0 + 846 ≤ MS; omega⟩ (fun a2 => ?_)
    refine tail _ a2 _ _ rfl rfl (by show va_up _ i _ i = _; simp [va_up]) (fun a3 n3 g3 => cd_put_put _ _ _ _ _ _ _ _) (by rw [hk]; show va_up _ i _ i = _; simp [va_up]) (by omega) (by omega)
  | some b =>
    refine jj_ifnn hC 33 dX10_image_17 (by decide) ?_
    exact tail g0 b _ _ rfl rfl hk (fun _ _ _ => rfl) (by rw [hk]) (by omega) (by omega)
theorem hi_X10_restore_X10 : ∀ w ∈ u_ws RX10 TX10 13, w ∈ wsX10_restore := fun _ h => List.mem_cons_of_mem _ (List.mem_append_left _ (List.mem_append_left _ (List.mem_append_left _ (List.mem_append_left _ (List.mem_append_right _ h)))))
theorem lk_X10_restore_1 : Cond.fieldLink RX10 30 "PartedHouse" "kept" "[LPartedHouse$Houses;" ∈ wsX10_restore := List.mem_of_getElem? (i := 1) rfl
theorem lk_X10_restore_2 : Cond.fieldLink RX10 34 "PartedHouse" "keptModules" "[I" ∈ wsX10_restore := List.mem_of_getElem? (i := 2) rfl
theorem lk_X10_restore_3 : Cond.fieldLink RX10 12 "PartedHouse" "text" "LPartedHouse$Text;" ∈ wsX10_restore := List.mem_of_getElem? (i := 3) rfl
theorem hi_X10_restore_X9 : ∀ w ∈ u_ws RX9 TX9 11, w ∈ wsX10_restore := fun _ h => List.mem_cons_of_mem _ (List.mem_append_left _ (List.mem_append_left _ (List.mem_append_left _ (List.mem_append_right _ h))))
theorem lk_X10_restore_4 : Cond.fieldLink RX10 92 "PartedHouse$Text" "modules" "I" ∈ wsX10_restore := List.mem_of_getElem? (i := 4) rfl
theorem lk_X10_restore_5 : Cond.fieldLink RX10 38 "PartedHouse" "keptTables" "[I" ∈ wsX10_restore := List.mem_of_getElem? (i := 5) rfl
theorem lk_X10_restore_6 : Cond.fieldLink RX10 104 "PartedHouse$Text" "tables" "I" ∈ wsX10_restore := List.mem_of_getElem? (i := 6) rfl
theorem lk_X10_restore_7 : Cond.fieldLink RX10 26 "PartedHouse" "now" "LPartedHouse$Houses;" ∈ wsX10_restore := List.mem_of_getElem? (i := 7) rfl
abbrev rm_X10_restore (MC MS : Nat) : Room := { frames := 6, cells := MC, slots := MS, locals := 200 }
set_option maxHeartbeats 4000000 in
set_option maxRecDepth 100000 in
theorem kc_X10_restore (l : Launch) (D : va_G) (cs : Nat → ClassId) (Y X : va_W) (ad : Nat → Nat) (MC MS : Nat) (a1 : Int32) (g0 : cm_M) (Post : Int32 → cm_M → Prop) (hV : vc_X10_restore MC MS a1 g0 Post) : JI (wc_d Y X cs ad) D vwCl (jt_tys cs) l yX10_restore wsX10_restore (rm_X10_restore MC MS) MC MS [.ref (ad 0), .int a1] g0 Post := by
  refine jj_metI (cc := cX10_restore) (nL := 2) (ret := (some .int)) (by decide) rfl (Nat.le_of_ble_eq_true rfl) [(0, .ref (ad 0)), (1, .int a1)] rfl ?_
  intro p e s m args below meth c hC hnm
  rw [vc_X10_restore] at hV
  refine jj_iload_n (pc2 := 1) hC dX10_restore_0 rfl 1 rfl rfl ?_
  refine jj_if_lt (pc2 := 4) hC 9 dX10_restore_1 (by decide) rfl (fun h => ?_) (fun h0 => ?_)
  · refine jj_iconst (pc2 := 10) hC (-1) dX10_restore_9 (by decide) rfl ?_
    refine jj_widen (k := MC) (n := MS) (Nat.zero_le _) (Nat.zero_le _) ?_
    exact jj_iret hC dX10_restore_10 (hV.1 (Or.inl h))
  refine jj_iload_n (pc2 := 5) hC dX10_restore_4 rfl 1 rfl rfl ?_
  refine jj_iconst (pc2 := 6) hC 4 dX10_restore_5 (by decide) rfl ?_
  refine jj_icmp_lt (pc2 := 9) hC 11 dX10_restore_6 (by decide) rfl (fun h4 => ?_) (fun h => ?_)
  rotate_left
  · refine jj_iconst (pc2 := 10) hC (-1) dX10_restore_9 (by decide) rfl ?_
    refine jj_widen (k := MC) (n := MS) (Nat.zero_le _) (Nat.zero_le _) ?_
    exact jj_iret hC dX10_restore_10 (hV.1 (Or.inr h))
  obtain ⟨i, hi, rfl⟩ := ri_of h0 h4
  have hV := hV.2 i hi rfl
  refine jj_aload_n (pc2 := 12) hC dX10_restore_11 rfl 0 rfl rfl ?_
  refine cg_M_kept (pc2 := 15) hC hi_X10_restore_X10 lk_X10_restore_1 dX10_restore_12 rfl ?_
  refine jj_iload_n (pc2 := 16) hC dX10_restore_15 rfl 1 rfl rfl ?_
  refine jj_aldq (pc2 := 17) (wd := wc_d Y X cs ad) (g := g0) hC (Y.length + 11) 3 (jx_at (V := wc_W cs ad g0) rfl) rfl (vp_in_nI hi (by omega)) dX10_restore_16 rfl ?_
  rw [nI_clamp (show i < 2 ^ 31 by omega)]
  cases hk : g0.1.2.2.1 i with
  | none =>
    refine jj_ifnN hC 52 dX10_restore_17 (by decide) ?_
    refine jj_bipush (pc2 := 54) hC (-2) dX10_restore_52 (by decide) rfl ?_
    refine jj_widen (k := MC) (n := MS) (Nat.zero_le _) (Nat.zero_le _) ?_
    exact jj_iret hC dX10_restore_54 (hV.1 hk)
  | some b =>
    have hV := hV.2 b hk
    refine jj_ifn (pc2 := 20) hC dX10_restore_17 rfl ?_
    refine jj_aload_n (pc2 := 21) hC dX10_restore_20 rfl 0 rfl rfl ?_
    refine cg_M_keptModules (pc2 := 24) hC hi_X10_restore_X10 lk_X10_restore_2 dX10_restore_21 rfl ?_
    refine jj_iload_n (pc2 := 25) hC dX10_restore_24 rfl 1 rfl rfl ?_
    refine cl_M_keptModules (pc2 := 26) hC (vp_in_nI hi (by omega)) dX10_restore_25 rfl ?_
    refine jj_aload_n (pc2 := 27) hC dX10_restore_26 rfl 0 rfl rfl ?_
    refine cg_M_text (pc2 := 30) hC hi_X10_restore_X10 lk_X10_restore_3 dX10_restore_27 rfl ?_
    refine cg_T_modules (pc2 := 33) hC hi_X10_restore_X9 lk_X10_restore_4 dX10_restore_30 rfl ?_
    rw [nI_clamp (show i < 2 ^ 31 by omega)]
    refine jj_icmp_ne (pc2 := 36) hC 52 dX10_restore_33 (by decide) rfl (fun h => ?_) (fun hm => ?_)
    · refine jj_bipush (pc2 := 54) hC (-2) dX10_restore_52 (by decide) rfl ?_
      refine jj_widen (k := MC) (n := MS) (Nat.zero_le _) (Nat.zero_le _) ?_
      exact jj_iret hC dX10_restore_54 (hV.1 (Or.inl h))
    refine jj_aload_n (pc2 := 37) hC dX10_restore_36 rfl 0 rfl rfl ?_
    refine cg_M_keptTables (pc2 := 40) hC hi_X10_restore_X10 lk_X10_restore_5 dX10_restore_37 rfl ?_
    refine jj_iload_n (pc2 := 41) hC dX10_restore_40 rfl 1 rfl rfl ?_
    refine cl_M_keptTables (pc2 := 42) hC (vp_in_nI hi (by omega)) dX10_restore_41 rfl ?_
    refine jj_aload_n (pc2 := 43) hC dX10_restore_42 rfl 0 rfl rfl ?_
    refine cg_M_text (pc2 := 46) hC hi_X10_restore_X10 lk_X10_restore_3 dX10_restore_43 rfl ?_
    refine cg_T_tables (pc2 := 49) hC hi_X10_restore_X9 lk_X10_restore_6 dX10_restore_46 rfl ?_
    rw [nI_clamp (show i < 2 ^ 31 by omega)]
    refine jj_icmp_eq (pc2 := 52) hC 55 dX10_restore_49 (by decide) rfl (fun ht => ?_) (fun h => ?_)
    rotate_left
    · refine jj_bipush (pc2 := 54) hC (-2) dX10_restore_52 (by decide) rfl ?_
      refine jj_widen (k := MC) (n := MS) (Nat.zero_le _) (Nat.zero_le _) ?_
      exact jj_iret hC dX10_restore_54 (hV.1 (Or.inr h))
    obtain ⟨k, ks, kw, hMC, hMS, hok, hV⟩ := hV.2 hm ht
    refine jj_aload_n (pc2 := 56) hC dX10_restore_55 rfl 0 rfl rfl ?_
    refine cg_M_now (pc2 := 59) hC hi_X10_restore_X10 lk_X10_restore_7 dX10_restore_56 rfl ?_
    refine jj_aload_n (pc2 := 60) hC dX10_restore_59 rfl 0 rfl rfl ?_
    refine cg_M_kept (pc2 := 63) hC hi_X10_restore_X10 lk_X10_restore_1 dX10_restore_60 rfl ?_
    refine jj_iload_n (pc2 := 64) hC dX10_restore_63 rfl 1 rfl rfl ?_
    refine jj_aldq (pc2 := 65) (wd := wc_d Y X cs ad) (g := g0) hC (Y.length + 11) 3 (jx_at (V := wc_W cs ad g0) rfl) rfl (vp_in_nI hi (by omega)) dX10_restore_64 rfl ?_
    rw [nI_clamp (show i < 2 ^ 31 by omega), hk]
    show JJ (wc_d Y X cs ad) p l e (rm_X10_restore MC MS) s m args below meth c D vwCl (va_A (wc_d Y X cs ad g0) s.heap.size) 2 0 0 _ 65 _ [.ref (b 0), .ref (ad 3)] g0
    refine jq_back (pc2 := 68) (o := g0.1.2.2.2.1 i) (k := k) (ks := ks) (kw := kw) hC hi hk rfl hok (cwV 1 hC.1.2.2.2.2 gX10_restore_X4_become rfl rfl rfl (by decide +kernel) ⟨by show 2 + 1 ≤ 6; omega, by show 8 + (2 + 11) + 61 ≤ 200; omega⟩) (Nat.le_of_ble_eq_true rfl) dX10_restore_65 ⟨by show 0 + 4 ≤ MC; omega, by show 0 + _ ≤ MS; omega⟩ rfl (fun a2 n2 g2 hl2 hs2 => ?_)
    have hV := hV a2 n2 g2 hl2 hs2
    refine jj_iconst (pc2 := 69) hC 1 dX10_restore_68 (by decide) rfl ?_
    refine jj_widen (k := MC) (n := MS) (by omega) (by omega) ?_
    exact jj_iret hC dX10_restore_69 hV
