/-! CONTRACTS: Arrays.fill over any world; reset, empty, start -/
def Fw (A : Nat → Prop) (D : va_G) (cl : List vw_C) (tys : List (ClassId × FieldType)) (ws : va_W) (U : State) : Prop := (∀ q, U.heap.size ≤ q → A q) ∧ va_P D cl ws U.heap ∧ va_K D cl tys U ∧ va_D A ws ∧ Tb U
theorem Fw.of {l : Launch} {G : GT} {σ : CS} {U : State} (g : GOK l G) (h : Cw G σ U) : Fw (gA G) (gD G) classes (tys G) (cw G σ) U := ⟨h.2.1, h.2.2, g.k h, g.d, g.tb h⟩
def fI (f : Nat → Int32) (j : Nat) (v : Int32) : Nat → Int32 := fun i => if i < j then v else f i
theorem fI_up (f : Nat → Int32) (j : Nat) (v : Int32) (hj : j < 2 ^ 31) : upd (fI f j v) (nI j).toNatClampNeg v = fI f (j + 1) v := by
  rw [nI_clamp hj]
  funext i
  unfold upd fI
  by_cases h : i = j
  · subst h; simp
  · by_cases h2 : i < j
    · simp [h, h2, show i < j + 1 by omega]
    · simp [h, h2, show ¬ i < j + 1 by omega]
theorem fI_0 (f : Nat → Int32) (v : Int32) : fI f 0 v = f := by funext i; simp [fI]
set_option maxHeartbeats 4000000 in
set_option maxRecDepth 100000 in
theorem L_fillI {l : Launch} {p : Program} {e : Env} {R : Room} {s : State} {m : MethodId} {args : Array Value} {below : List Frame} {meth : Method} {c : Code} {A : Nat → Prop} {D : va_G} {cl : List vw_C} {tys : List (ClassId × FieldType)} {ws : va_W} (hx : p.tables.exec = Jvm.exec) (hb : c.code = b_Ar_fill2) (hr : meth.sig.returnType = none) (hlocks : meth.locks = false) (hK : va_K D cl tys s) {q0 t0 a n : Nat} {cA : ClassId} {f : Nat → Int32} {v : Int32} (hq : q0 < ws.length) (ht : tys[t0]? = some (cA, .int)) (hn : n < 2 ^ 31) :
    ∀ (k j : Nat) (H : Heap) (locs : List Loc) (ls : Array Slot), j + k = n → va_P D cl (ws.set q0 (a, .inl (cA, n, aI (fI f j v)))) H → va_D A (ws.set q0 (a, .inl (cA, n, aI (fI f j v)))) → va_S A s.heap H locs → lv_has ls 4 [(2, .int (nI j)), (3, .int (nI n)), (0, .ref a), (1, .int v)] →
    W p l e R s m args below meth c H locs 0 0 (cx_E below A (fun r t => r = none ∧ va_P D cl (ws.set q0 (a, .inl (cA, n, aI (fI f n v)))) t.heap) Tn args s) (F0 m 5 ls []) := by
  intro k
  induction k with
  | zero =>
    intro j H locs ls hj hP hD hS hl
    have hjn : j = n := by omega
    subst hjn
    refine lv_iload_n hx hb d_Ar_fill2_5 rfl (lv_at hl 0 rfl) ?_
    refine lv_iload_n hx hb d_Ar_fill2_6 rfl (lv_at hl 1 rfl) ?_
    refine lv_icmp_ge (tgt := 20) hx hb d_Ar_fill2_7 (by decide) (fun c9 => ?_) (fun c9 => ?_)
    · exact cx_ret (W.vret hx hb hr (fun t h9 _ => ⟨hS.F h9, _, rfl, rfl, by rw [h9]; exact hP⟩) hS.2.2 d_Ar_fill2_20 hlocks)
    · exact absurd (nI_le (Nat.le_refl j) hn) c9
  | succ k ih =>
    intro j H locs ls hj hP hD hS hl
    refine lv_iload_n hx hb d_Ar_fill2_5 rfl (lv_at hl 0 rfl) ?_
    refine lv_iload_n hx hb d_Ar_fill2_6 rfl (lv_at hl 1 rfl) ?_
    refine lv_icmp_ge (tgt := 20) hx hb d_Ar_fill2_7 (by decide) (fun c9 => ?_) (fun c9 => ?_)
    · exact absurd c9 (nI_ge (by omega) hn)
    · refine lv_aload_n hx hb d_Ar_fill2_10 rfl (lv_at hl 2 rfl) ?_
      refine lv_iload_n hx hb d_Ar_fill2_11 rfl (lv_at hl 0 rfl) ?_
      refine lv_iload_n hx hb d_Ar_fill2_12 rfl (lv_at hl 3 rfl) ?_
      refine va_iast (f := fI f j v) hx hb hK hP hD hS q0 t0 (by rw [List.getElem?_set_self hq]) ht (vp_in_nI (by omega) hn) d_Ar_fill2_13 (fun H locs hP hD hS => ?_)
      rw [List.set_set, fI_up f j v (by omega)] at hP hD
      refine lv_iinc (v := nI j + 1) (lv' := [(2, .int (nI j + 1)), (3, .int (nI n)), (0, .ref a), (1, .int v)]) hx hb d_Ar_fill2_14 hl (k := 0) rfl rfl (by decide) rfl (fun ls hl => ?_)
      refine lv_goto (tgt := 5) hx hb d_Ar_fill2_17 (by decide) ?_
      rw [nI_1] at hl
      exact ih (j + 1) H locs ls (by omega) hP hD hS hl
set_option maxHeartbeats 4000000 in
set_option maxRecDepth 100000 in
theorem K_fillI {l : Launch} {A : Nat → Prop} {D : va_G} {cl : List vw_C} {tys : List (ClassId × FieldType)} {ws : va_W} {q0 t0 a n : Nat} {cA : ClassId} {f : Nat → Int32} (v : Int32) (ha : ws[q0]? = some (a, .inl (cA, n, aI (f)))) (ht : tys[t0]? = some (cA, .int)) (hn : n < 2 ^ 31) : cx_M l y_Ar_fill2 (.code y_Ar_fill2 b_Ar_fill2 4 none) 0 0 A [.ref a, .int v] (Fw A D cl tys ws) (fun r t => r = none ∧ va_P D cl (ws.set q0 (a, .inl (cA, n, aI (fI f n v)))) t.heap) Tn := by
  refine cx_of (by decide +kernel) ?_
  intro p e s m below meth c s₁ B hml hte hc
  have hx := B.exec
  have hb := B.bytes
  have hr := B.returns
  have hlocks := B.notSynchronized
  obtain ⟨hA, hP, hK, hD, hT⟩ := hc
  have hS : va_S A s.heap s.heap [] := va_S.rf
  have hq : q0 < ws.length := (List.getElem?_eq_some_iff.mp ha).1
  have hset : ws.set q0 (a, .inl (cA, n, aI (fI f 0 v))) = ws := by
    rw [fI_0]
    exact List.ext_getElem? (fun k => by
      rw [List.getElem?_set]
      by_cases h : q0 = k
      · subst h; rw [if_pos rfl, if_pos hq]; exact ha.symm
      · simp [h])
  have hl := lv_entry ([.ref a, .int v]) (n := 4) (Nat.le_of_ble_eq_true rfl)
  rw [lg_entry_eq]
  generalize (lg_sl ([.ref a, .int v]) ++ List.replicate (4 - (lg_sl ([.ref a, .int v])).length) Slot.unset).toArray = ls at hl ⊢
  have hl : lv_has ls 4 [(0, .ref a), (1, .int v)] := hl
  refine lv_iconst (v := 0) hx hb d_Ar_fill2_0 (by decide) ?_
  refine lv_istore_n (lv' := [(2, .int 0), (0, .ref a), (1, .int v)]) hx hb d_Ar_fill2_1 rfl hl (by decide) rfl (fun ls hl => ?_)
  refine lv_aload_n hx hb d_Ar_fill2_2 rfl (lv_at hl 1 rfl) ?_
  refine va_alen (v := nI n) hx hb hK hP q0 t0 ha ht rfl d_Ar_fill2_3 ?_
  refine lv_istore_n (lv' := [(3, .int (nI n)), (2, .int 0), (0, .ref a), (1, .int v)]) hx hb d_Ar_fill2_4 rfl hl (by decide) rfl (fun ls hl => ?_)
  rw [← hset] at hP hD
  exact L_fillI hx hb hr hlocks hK hq ht hn n 0 _ _ ls (by omega) hP hD hS (by rw [nI_0]; exact lv_sub hl [1, 0, 2, 3] rfl)
def fD (f : Nat → UInt64) (j : Nat) (v : UInt64) : Nat → UInt64 := fun i => if i < j then v else f i
theorem fD_up (f : Nat → UInt64) (j : Nat) (v : UInt64) (hj : j < 2 ^ 31) : vf_upd (fD f j v) (nI j).toNatClampNeg v = fD f (j + 1) v := by
  rw [nI_clamp hj]
  funext i
  unfold vf_upd fD
  by_cases h : i = j
  · subst h; simp
  · by_cases h2 : i < j
    · simp [h, h2, show i < j + 1 by omega]
    · simp [h, h2, show ¬ i < j + 1 by omega]
theorem fD_0 (f : Nat → UInt64) (v : UInt64) : fD f 0 v = f := by funext i; simp [fD]
set_option maxHeartbeats 4000000 in
set_option maxRecDepth 100000 in
theorem L_fillD {l : Launch} {p : Program} {e : Env} {R : Room} {s : State} {m : MethodId} {args : Array Value} {below : List Frame} {meth : Method} {c : Code} {A : Nat → Prop} {D : va_G} {cl : List vw_C} {tys : List (ClassId × FieldType)} {ws : va_W} (hx : p.tables.exec = Jvm.exec) (hb : c.code = b_Ar_fill) (hr : meth.sig.returnType = none) (hlocks : meth.locks = false) (hK : va_K D cl tys s) {q0 t0 a n : Nat} {cA : ClassId} {f : Nat → UInt64} {v : UInt64} (hq : q0 < ws.length) (ht : tys[t0]? = some (cA, .double)) (hn : n < 2 ^ 31) :
    ∀ (k j : Nat) (H : Heap) (locs : List Loc) (ls : Array Slot), j + k = n → va_P D cl (ws.set q0 (a, .inl (cA, n, aD (fD f j v)))) H → va_D A (ws.set q0 (a, .inl (cA, n, aD (fD f j v)))) → va_S A s.heap H locs → lv_has ls 5 [(3, .int (nI j)), (4, .int (nI n)), (0, .ref a), (1, .double v)] →
    W p l e R s m args below meth c H locs 0 0 (cx_E below A (fun r t => r = none ∧ va_P D cl (ws.set q0 (a, .inl (cA, n, aD (fD f n v)))) t.heap) Tn args s) (F0 m 6 ls []) := by
  intro k
  induction k with
  | zero =>
    intro j H locs ls hj hP hD hS hl
    have hjn : j = n := by omega
    subst hjn
    refine lv_iload_n hx hb d_Ar_fill_6 rfl (lv_at hl 0 rfl) ?_
    refine lv_iload hx hb d_Ar_fill_7 (lv_at hl 1 rfl) ?_
    refine lv_icmp_ge (tgt := 22) hx hb d_Ar_fill_9 (by decide) (fun c9 => ?_) (fun c9 => ?_)
    · exact cx_ret (W.vret hx hb hr (fun t h9 _ => ⟨hS.F h9, _, rfl, rfl, by rw [h9]; exact hP⟩) hS.2.2 d_Ar_fill_22 hlocks)
    · exact absurd (nI_le (Nat.le_refl j) hn) c9
  | succ k ih =>
    intro j H locs ls hj hP hD hS hl
    refine lv_iload_n hx hb d_Ar_fill_6 rfl (lv_at hl 0 rfl) ?_
    refine lv_iload hx hb d_Ar_fill_7 (lv_at hl 1 rfl) ?_
    refine lv_icmp_ge (tgt := 22) hx hb d_Ar_fill_9 (by decide) (fun c9 => ?_) (fun c9 => ?_)
    · exact absurd c9 (nI_ge (by omega) hn)
    · refine lv_aload_n hx hb d_Ar_fill_12 rfl (lv_at hl 2 rfl) ?_
      refine lv_iload_n hx hb d_Ar_fill_13 rfl (lv_at hl 0 rfl) ?_
      refine lv_dload_n hx hb d_Ar_fill_14 rfl (lv_at hl 3 rfl) ?_
      refine va_dast (f := fD f j v) hx hb hK hP hD hS q0 t0 (by rw [List.getElem?_set_self hq]) ht (vp_in_nI (by omega) hn) d_Ar_fill_15 (fun H locs hP hD hS => ?_)
      rw [List.set_set, fD_up f j v (by omega)] at hP hD
      refine lv_iinc (v := nI j + 1) (lv' := [(3, .int (nI j + 1)), (4, .int (nI n)), (0, .ref a), (1, .double v)]) hx hb d_Ar_fill_16 hl (k := 0) rfl rfl (by decide) rfl (fun ls hl => ?_)
      refine lv_goto (tgt := 6) hx hb d_Ar_fill_19 (by decide) ?_
      rw [nI_1] at hl
      exact ih (j + 1) H locs ls (by omega) hP hD hS hl
set_option maxHeartbeats 4000000 in
set_option maxRecDepth 100000 in
theorem K_fillD {l : Launch} {A : Nat → Prop} {D : va_G} {cl : List vw_C} {tys : List (ClassId × FieldType)} {ws : va_W} {q0 t0 a n : Nat} {cA : ClassId} {f : Nat → UInt64} (v : UInt64) (ha : ws[q0]? = some (a, .inl (cA, n, aD (f)))) (ht : tys[t0]? = some (cA, .double)) (hn : n < 2 ^ 31) : cx_M l y_Ar_fill (.code y_Ar_fill b_Ar_fill 5 none) 0 0 A [.ref a, .double v] (Fw A D cl tys ws) (fun r t => r = none ∧ va_P D cl (ws.set q0 (a, .inl (cA, n, aD (fD f n v)))) t.heap) Tn := by
  refine cx_of (by decide +kernel) ?_
  intro p e s m below meth c s₁ B hml hte hc
  have hx := B.exec
  have hb := B.bytes
  have hr := B.returns
  have hlocks := B.notSynchronized
  obtain ⟨hA, hP, hK, hD, hT⟩ := hc
  have hS : va_S A s.heap s.heap [] := va_S.rf
  have hq : q0 < ws.length := (List.getElem?_eq_some_iff.mp ha).1
  have hset : ws.set q0 (a, .inl (cA, n, aD (fD f 0 v))) = ws := by
    rw [fD_0]
    exact List.ext_getElem? (fun k => by
      rw [List.getElem?_set]
      by_cases h : q0 = k
      · subst h; rw [if_pos rfl, if_pos hq]; exact ha.symm
      · simp [h])
  have hl := lv_entry ([.ref a, .double v]) (n := 5) (Nat.le_of_ble_eq_true rfl)
  rw [lg_entry_eq]
  generalize (lg_sl ([.ref a, .double v]) ++ List.replicate (5 - (lg_sl ([.ref a, .double v])).length) Slot.unset).toArray = ls at hl ⊢
  have hl : lv_has ls 5 [(0, .ref a), (1, .double v)] := hl
  refine lv_iconst (v := 0) hx hb d_Ar_fill_0 (by decide) ?_
  refine lv_istore_n (lv' := [(3, .int 0), (0, .ref a), (1, .double v)]) hx hb d_Ar_fill_1 rfl hl (by decide) rfl (fun ls hl => ?_)
  refine lv_aload_n hx hb d_Ar_fill_2 rfl (lv_at hl 1 rfl) ?_
  refine va_alen (v := nI n) hx hb hK hP q0 t0 ha ht rfl d_Ar_fill_3 ?_
  refine lv_istore (lv' := [(4, .int (nI n)), (3, .int 0), (0, .ref a), (1, .double v)]) hx hb d_Ar_fill_4 hl (by decide) rfl (fun ls hl => ?_)
  rw [← hset] at hP hD
  exact L_fillD hx hb hr hlocks hK hq ht hn n 0 _ _ ls (by omega) hP hD hS (by rw [nI_0]; exact lv_sub hl [1, 0, 2, 3] rfl)
def ckR (σ : CS) : CS := sI (sI (sI (sI (sJ σ 1 (fI (cJ σ 1) 12 0)) 3 (-1)) 4 0) 5 0) 6 0
def ccR (σ : CS) : CS := sI (sJ σ 2 (fI (cJ σ 2) 2 (-1))) 7 0
def dcR (σ : CS) : CS := sI (sI (sJ (sJ σ 3 (fI (cJ σ 3) 4 (-1))) 4 (fI (cJ σ 4) 4 0)) 9 0) 8 0
def prR (σ : CS) : CS := sI (sJ σ 5 (fI (cJ σ 5) 8 1)) 10 0
def stF (σ : CS) (i : Int32) : CS := prR (dcR (ccR (ckR (sF (sJ (sI (sI (sI σ 0 i) 1 0) 2 0) 0 (fI (cJ σ 0) 8 0)) 1 (fD (cF σ 1) 4 FP.dconst0)))))
set_option maxHeartbeats 4000000 in
set_option maxRecDepth 100000 in
theorem K_Ck_reset {l : Launch} {G : GT} (g : GOK l G) (σ : CS) : cx_M l y_Ck_reset (.code y_Ck_reset b_Ck_reset 1 none) 1 23 (gA G) [.ref (gad G 5)] (Cw G σ) (Rv G (fun u => u = ckR σ)) (Tn) := by
  refine cx_of (by decide +kernel) ?_
  intro p e s m below meth c s₁ B hml ht hc
  have hx := B.exec
  have hb := B.bytes
  have hr := B.returns
  have hown : s.vm.findClass R_Ck = some m.cls := findClass_of_methodNamed B.named
  have hlocks := B.notSynchronized
  have hT := g.tb hc
  have hK := g.k hc
  have hD := g.d (σ := σ)
  have hS : va_S (gA G) s.heap s.heap [] := va_S.rf
  have hP := hc.2.2
  have hl := lv_entry ([.ref (gad G 5)]) (n := 1) (Nat.le_of_ble_eq_true rfl)
  rw [lg_entry_eq]
  generalize (lg_sl ([.ref (gad G 5)]) ++ List.replicate (1 - (lg_sl ([.ref (gad G 5)])).length) Slot.unset).toArray = ls at hl ⊢
  have hl : lv_has ls 1 [(0, .ref (gad G 5))] := hl
  refine lv_aload_n hx hb d_Ck_reset_0 rfl (lv_at hl 0 rfl) ?_
  refine va_get (D := gD G) (ci := 0) (v := .ref (gad G 6)) (C := R_Ck) (T := F_Ck) (N := 5) hx hb (wl_Ck hT) (fun _ h9 => h9) hown hK hP 5 rfl rfl 0 (by decide) (k_34 hT) (fun _ h9 => h9) rfl d_Ck_reset_1 ?_
  refine lv_iconst (v := 0) hx hb d_Ck_reset_4 (by decide) ?_
  refine cx_S (n := 2) (As := [.ref (gad G 6), .int 0]) (rest := []) ⟨hx, hb, hml, hown, fun _ h9 => nomatch h9⟩ (K_fillI (q0 := 6) (t0 := 0) (f := (cJ σ 1)) 0 rfl rfl (by decide)) (k_398 hT) (k_65 hT) (k_66 hT) (k_4 hT) rfl (by decide +kernel) (fun U hU hW => Fw.of g (hc.at g hS hP U hU hW)) ⟨by decide, by decide⟩ ⟨by decide, by decide⟩ hl.1 (Nat.le_of_ble_eq_true rfl) d_Ck_reset_5 (fun _ h9 => h9) hS (fun _ _ _ _ _ _ _ h9 => h9.elim) (fun v t H locs ht9 hRt hz hk hS => ?_)
  obtain ⟨rfl, hP⟩ := hRt
  rw [ht9] at hP
  have hP : va_P (gD G) classes (cw G (sJ σ 1 (fI (cJ σ 1) 12 0))) H := hP
  have hD : va_D (gA G) (cw G (sJ σ 1 (fI (cJ σ 1) 12 0))) := g.d
  refine W.eq (g2 := F0 m 8 ls []) rfl ?_
  refine lv_aload_n hx hb d_Ck_reset_8 rfl (lv_at hl 0 rfl) ?_
  refine lv_iconst (v := (-1)) hx hb d_Ck_reset_9 (by decide) ?_
  refine va_put (D := gD G) (ci := 0) (v := .int (-1)) (ty := .int) (C := R_Ck) (T := F_Ck) (N := 5) hx hb (wl_Ck hT) (fun _ h9 => h9) fy_Ck fy_Ck_ok fn_Ck hown hK hP hD hS 5 rfl rfl 1 (by decide) (k_36 hT) (fun _ h9 => h9) rfl (by decide +kernel) rfl rfl (Nat.le_of_ble_eq_true rfl) d_Ck_reset_10 (fun H locs hP hD hS => ?_)
  have hP : va_P (gD G) classes (cw G (sI (sJ σ 1 (fI (cJ σ 1) 12 0)) 3 (-1))) H := hP
  have hD : va_D (gA G) (cw G (sI (sJ σ 1 (fI (cJ σ 1) 12 0)) 3 (-1))) := g.d
  refine lv_aload_n hx hb d_Ck_reset_13 rfl (lv_at hl 0 rfl) ?_
  refine lv_iconst (v := 0) hx hb d_Ck_reset_14 (by decide) ?_
  refine va_put (D := gD G) (ci := 0) (v := .int 0) (ty := .int) (C := R_Ck) (T := F_Ck) (N := 5) hx hb (wl_Ck hT) (fun _ h9 => h9) fy_Ck fy_Ck_ok fn_Ck hown hK hP hD hS 5 rfl rfl 2 (by decide) (k_38 hT) (fun _ h9 => h9) rfl (by decide +kernel) rfl rfl (Nat.le_of_ble_eq_true rfl) d_Ck_reset_15 (fun H locs hP hD hS => ?_)
  have hP : va_P (gD G) classes (cw G (sI (sI (sJ σ 1 (fI (cJ σ 1) 12 0)) 3 (-1)) 4 0)) H := hP
  have hD : va_D (gA G) (cw G (sI (sI (sJ σ 1 (fI (cJ σ 1) 12 0)) 3 (-1)) 4 0)) := g.d
  refine lv_aload_n hx hb d_Ck_reset_18 rfl (lv_at hl 0 rfl) ?_
  refine lv_iconst (v := 0) hx hb d_Ck_reset_19 (by decide) ?_
  refine va_put (D := gD G) (ci := 0) (v := .int 0) (ty := .int) (C := R_Ck) (T := F_Ck) (N := 5) hx hb (wl_Ck hT) (fun _ h9 => h9) fy_Ck fy_Ck_ok fn_Ck hown hK hP hD hS 5 rfl rfl 3 (by decide) (k_39 hT) (fun _ h9 => h9) rfl (by decide +kernel) rfl rfl (Nat.le_of_ble_eq_true rfl) d_Ck_reset_20 (fun H locs hP hD hS => ?_)
  have hP : va_P (gD G) classes (cw G (sI (sI (sI (sJ σ 1 (fI (cJ σ 1) 12 0)) 3 (-1)) 4 0) 5 0)) H := hP
  have hD : va_D (gA G) (cw G (sI (sI (sI (sJ σ 1 (fI (cJ σ 1) 12 0)) 3 (-1)) 4 0) 5 0)) := g.d
  refine lv_aload_n hx hb d_Ck_reset_23 rfl (lv_at hl 0 rfl) ?_
  refine lv_iconst (v := 0) hx hb d_Ck_reset_24 (by decide) ?_
  refine va_put (D := gD G) (ci := 0) (v := .int 0) (ty := .boolean) (C := R_Ck) (T := F_Ck) (N := 5) hx hb (wl_Ck hT) (fun _ h9 => h9) fy_Ck fy_Ck_ok fn_Ck hown hK hP hD hS 5 rfl rfl 4 (by decide) (k_40 hT) (fun _ h9 => h9) rfl (by decide +kernel) rfl rfl (Nat.le_of_ble_eq_true rfl) d_Ck_reset_25 (fun H locs hP hD hS => ?_)
  have hP : va_P (gD G) classes (cw G (sI (sI (sI (sI (sJ σ 1 (fI (cJ σ 1) 12 0)) 3 (-1)) 4 0) 5 0) 6 0)) H := hP
  have hD : va_D (gA G) (cw G (sI (sI (sI (sI (sJ σ 1 (fI (cJ σ 1) 12 0)) 3 (-1)) 4 0) 5 0) 6 0)) := g.d
  exact end_v (u := (sI (sI (sI (sI (sJ σ 1 (fI (cJ σ 1) 12 0)) 3 (-1)) 4 0) 5 0) 6 0)) hx hb hr hlocks hS hP d_Ck_reset_28 (rfl)

set_option maxHeartbeats 4000000 in
set_option maxRecDepth 100000 in
theorem K_Cc_empty {l : Launch} {G : GT} (g : GOK l G) (σ : CS) : cx_M l y_Cc_empty (.code y_Cc_empty b_Cc_empty 1 none) 1 23 (gA G) [.ref (gad G 7)] (Cw G σ) (Rv G (fun u => u = ccR σ)) (Tn) := by
  refine cx_of (by decide +kernel) ?_
  intro p e s m below meth c s₁ B hml ht hc
  have hx := B.exec
  have hb := B.bytes
  have hr := B.returns
  have hown : s.vm.findClass R_Cc = some m.cls := findClass_of_methodNamed B.named
  have hlocks := B.notSynchronized
  have hT := g.tb hc
  have hK := g.k hc
  have hD := g.d (σ := σ)
  have hS : va_S (gA G) s.heap s.heap [] := va_S.rf
  have hP := hc.2.2
  have hl := lv_entry ([.ref (gad G 7)]) (n := 1) (Nat.le_of_ble_eq_true rfl)
  rw [lg_entry_eq]
  generalize (lg_sl ([.ref (gad G 7)]) ++ List.replicate (1 - (lg_sl ([.ref (gad G 7)])).length) Slot.unset).toArray = ls at hl ⊢
  have hl : lv_has ls 1 [(0, .ref (gad G 7))] := hl
  refine lv_aload_n hx hb d_Cc_empty_0 rfl (lv_at hl 0 rfl) ?_
  refine va_get (D := gD G) (ci := 1) (v := .ref (gad G 8)) (C := R_Cc) (T := F_Cc) (N := 2) hx hb (wl_Cc hT) (fun _ h9 => h9) hown hK hP 7 rfl rfl 1 (by decide) (k_69 hT) (fun _ h9 => h9) rfl d_Cc_empty_1 ?_
  refine lv_iconst (v := (-1)) hx hb d_Cc_empty_4 (by decide) ?_
  refine cx_S (n := 2) (As := [.ref (gad G 8), .int (-1)]) (rest := []) ⟨hx, hb, hml, hown, fun _ h9 => nomatch h9⟩ (K_fillI (q0 := 8) (t0 := 0) (f := (cJ σ 2)) (-1) rfl rfl (by decide)) (k_64 hT) (k_65 hT) (k_66 hT) (k_4 hT) rfl (by decide +kernel) (fun U hU hW => Fw.of g (hc.at g hS hP U hU hW)) ⟨by decide, by decide⟩ ⟨by decide, by decide⟩ hl.1 (Nat.le_of_ble_eq_true rfl) d_Cc_empty_5 (fun _ h9 => h9) hS (fun _ _ _ _ _ _ _ h9 => h9.elim) (fun v t H locs ht9 hRt hz hk hS => ?_)
  obtain ⟨rfl, hP⟩ := hRt
  rw [ht9] at hP
  have hP : va_P (gD G) classes (cw G (sJ σ 2 (fI (cJ σ 2) 2 (-1)))) H := hP
  have hD : va_D (gA G) (cw G (sJ σ 2 (fI (cJ σ 2) 2 (-1)))) := g.d
  refine W.eq (g2 := F0 m 8 ls []) rfl ?_
  refine lv_aload_n hx hb d_Cc_empty_8 rfl (lv_at hl 0 rfl) ?_
  refine lv_iconst (v := 0) hx hb d_Cc_empty_9 (by decide) ?_
  refine va_put (D := gD G) (ci := 1) (v := .int 0) (ty := .int) (C := R_Cc) (T := F_Cc) (N := 2) hx hb (wl_Cc hT) (fun _ h9 => h9) fy_Cc fy_Cc_ok fn_Cc hown hK hP hD hS 7 rfl rfl 0 (by decide) (k_67 hT) (fun _ h9 => h9) rfl (by decide +kernel) rfl rfl (Nat.le_of_ble_eq_true rfl) d_Cc_empty_10 (fun H locs hP hD hS => ?_)
  have hP : va_P (gD G) classes (cw G (sI (sJ σ 2 (fI (cJ σ 2) 2 (-1))) 7 0)) H := hP
  have hD : va_D (gA G) (cw G (sI (sJ σ 2 (fI (cJ σ 2) 2 (-1))) 7 0)) := g.d
  exact end_v (u := (sI (sJ σ 2 (fI (cJ σ 2) 2 (-1))) 7 0)) hx hb hr hlocks hS hP d_Cc_empty_13 (rfl)

set_option maxHeartbeats 4000000 in
set_option maxRecDepth 100000 in
theorem K_Dc_empty {l : Launch} {G : GT} (g : GOK l G) (σ : CS) : cx_M l y_Dc_empty (.code y_Dc_empty b_Dc_empty 1 none) 1 23 (gA G) [.ref (gad G 9)] (Cw G σ) (Rv G (fun u => u = dcR σ)) (Tn) := by
  refine cx_of (by decide +kernel) ?_
  intro p e s m below meth c s₁ B hml ht hc
  have hx := B.exec
  have hb := B.bytes
  have hr := B.returns
  have hown : s.vm.findClass R_Dc = some m.cls := findClass_of_methodNamed B.named
  have hlocks := B.notSynchronized
  have hT := g.tb hc
  have hK := g.k hc
  have hD := g.d (σ := σ)
  have hS : va_S (gA G) s.heap s.heap [] := va_S.rf
  have hP := hc.2.2
  have hl := lv_entry ([.ref (gad G 9)]) (n := 1) (Nat.le_of_ble_eq_true rfl)
  rw [lg_entry_eq]
  generalize (lg_sl ([.ref (gad G 9)]) ++ List.replicate (1 - (lg_sl ([.ref (gad G 9)])).length) Slot.unset).toArray = ls at hl ⊢
  have hl : lv_has ls 1 [(0, .ref (gad G 9))] := hl
  refine lv_aload_n hx hb d_Dc_empty_0 rfl (lv_at hl 0 rfl) ?_
  refine va_get (D := gD G) (ci := 2) (v := .ref (gad G 10)) (C := R_Dc) (T := F_Dc) (N := 4) hx hb (wl_Dc hT) (fun _ h9 => h9) hown hK hP 9 rfl rfl 1 (by decide) (k_88 hT) (fun _ h9 => h9) rfl d_Dc_empty_1 ?_
  refine lv_iconst (v := (-1)) hx hb d_Dc_empty_4 (by decide) ?_
  refine cx_S (n := 2) (As := [.ref (gad G 10), .int (-1)]) (rest := []) ⟨hx, hb, hml, hown, fun _ h9 => nomatch h9⟩ (K_fillI (q0 := 10) (t0 := 0) (f := (cJ σ 3)) (-1) rfl rfl (by decide)) (k_85 hT) (k_65 hT) (k_66 hT) (k_4 hT) rfl (by decide +kernel) (fun U hU hW => Fw.of g (hc.at g hS hP U hU hW)) ⟨by decide, by decide⟩ ⟨by decide, by decide⟩ hl.1 (Nat.le_of_ble_eq_true rfl) d_Dc_empty_5 (fun _ h9 => h9) hS (fun _ _ _ _ _ _ _ h9 => h9.elim) (fun v t H locs ht9 hRt hz hk hS => ?_)
  obtain ⟨rfl, hP⟩ := hRt
  rw [ht9] at hP
  have hP : va_P (gD G) classes (cw G (sJ σ 3 (fI (cJ σ 3) 4 (-1)))) H := hP
  have hD : va_D (gA G) (cw G (sJ σ 3 (fI (cJ σ 3) 4 (-1)))) := g.d
  refine W.eq (g2 := F0 m 8 ls []) rfl ?_
  refine lv_aload_n hx hb d_Dc_empty_8 rfl (lv_at hl 0 rfl) ?_
  refine va_get (D := gD G) (ci := 2) (v := .ref (gad G 11)) (C := R_Dc) (T := F_Dc) (N := 4) hx hb (wl_Dc hT) (fun _ h9 => h9) hown hK hP 9 rfl rfl 2 (by decide) (k_89 hT) (fun _ h9 => h9) rfl d_Dc_empty_9 ?_
  refine lv_iconst (v := 0) hx hb d_Dc_empty_12 (by decide) ?_
  refine cx_S (n := 2) (As := [.ref (gad G 11), .int 0]) (rest := []) ⟨hx, hb, hml, hown, fun _ h9 => nomatch h9⟩ (K_fillI (q0 := 11) (t0 := 0) (f := (cJ σ 4)) 0 rfl rfl (by decide)) (k_85 hT) (k_65 hT) (k_66 hT) (k_4 hT) rfl (by decide +kernel) (fun U hU hW => Fw.of g (hc.at g hS hP U hU hW)) ⟨by decide, by decide⟩ ⟨by decide, by decide⟩ hl.1 (Nat.le_of_ble_eq_true rfl) d_Dc_empty_13 (fun _ h9 => h9) hS (fun _ _ _ _ _ _ _ h9 => h9.elim) (fun v t H locs ht9 hRt hz hk hS => ?_)
  obtain ⟨rfl, hP⟩ := hRt
  rw [ht9] at hP
  have hP : va_P (gD G) classes (cw G (sJ (sJ σ 3 (fI (cJ σ 3) 4 (-1))) 4 (fI (cJ σ 4) 4 0))) H := hP
  have hD : va_D (gA G) (cw G (sJ (sJ σ 3 (fI (cJ σ 3) 4 (-1))) 4 (fI (cJ σ 4) 4 0))) := g.d
  refine W.eq (g2 := F0 m 16 ls []) rfl ?_
  refine lv_aload_n hx hb d_Dc_empty_16 rfl (lv_at hl 0 rfl) ?_
  refine lv_iconst (v := 0) hx hb d_Dc_empty_17 (by decide) ?_
  refine va_put (D := gD G) (ci := 2) (v := .int 0) (ty := .int) (C := R_Dc) (T := F_Dc) (N := 4) hx hb (wl_Dc hT) (fun _ h9 => h9) fy_Dc fy_Dc_ok fn_Dc hown hK hP hD hS 9 rfl rfl 3 (by decide) (k_90 hT) (fun _ h9 => h9) rfl (by decide +kernel) rfl rfl (Nat.le_of_ble_eq_true rfl) d_Dc_empty_18 (fun H locs hP hD hS => ?_)
  have hP : va_P (gD G) classes (cw G (sI (sJ (sJ σ 3 (fI (cJ σ 3) 4 (-1))) 4 (fI (cJ σ 4) 4 0)) 9 0)) H := hP
  have hD : va_D (gA G) (cw G (sI (sJ (sJ σ 3 (fI (cJ σ 3) 4 (-1))) 4 (fI (cJ σ 4) 4 0)) 9 0)) := g.d
  refine lv_aload_n hx hb d_Dc_empty_21 rfl (lv_at hl 0 rfl) ?_
  refine lv_iconst (v := 0) hx hb d_Dc_empty_22 (by decide) ?_
  refine va_put (D := gD G) (ci := 2) (v := .int 0) (ty := .int) (C := R_Dc) (T := F_Dc) (N := 4) hx hb (wl_Dc hT) (fun _ h9 => h9) fy_Dc fy_Dc_ok fn_Dc hown hK hP hD hS 9 rfl rfl 0 (by decide) (k_86 hT) (fun _ h9 => h9) rfl (by decide +kernel) rfl rfl (Nat.le_of_ble_eq_true rfl) d_Dc_empty_23 (fun H locs hP hD hS => ?_)
  have hP : va_P (gD G) classes (cw G (sI (sI (sJ (sJ σ 3 (fI (cJ σ 3) 4 (-1))) 4 (fI (cJ σ 4) 4 0)) 9 0) 8 0)) H := hP
  have hD : va_D (gA G) (cw G (sI (sI (sJ (sJ σ 3 (fI (cJ σ 3) 4 (-1))) 4 (fI (cJ σ 4) 4 0)) 9 0) 8 0)) := g.d
  exact end_v (u := (sI (sI (sJ (sJ σ 3 (fI (cJ σ 3) 4 (-1))) 4 (fI (cJ σ 4) 4 0)) 9 0) 8 0)) hx hb hr hlocks hS hP d_Dc_empty_26 (rfl)

set_option maxHeartbeats 4000000 in
set_option maxRecDepth 100000 in
theorem K_Pr_reset {l : Launch} {G : GT} (g : GOK l G) (σ : CS) : cx_M l y_Pr_reset (.code y_Pr_reset b_Pr_reset 1 none) 1 23 (gA G) [.ref (gad G 12)] (Cw G σ) (Rv G (fun u => u = prR σ)) (Tn) := by
  refine cx_of (by decide +kernel) ?_
  intro p e s m below meth c s₁ B hml ht hc
  have hx := B.exec
  have hb := B.bytes
  have hr := B.returns
  have hown : s.vm.findClass R_Pr = some m.cls := findClass_of_methodNamed B.named
  have hlocks := B.notSynchronized
  have hT := g.tb hc
  have hK := g.k hc
  have hD := g.d (σ := σ)
  have hS : va_S (gA G) s.heap s.heap [] := va_S.rf
  have hP := hc.2.2
  have hl := lv_entry ([.ref (gad G 12)]) (n := 1) (Nat.le_of_ble_eq_true rfl)
  rw [lg_entry_eq]
  generalize (lg_sl ([.ref (gad G 12)]) ++ List.replicate (1 - (lg_sl ([.ref (gad G 12)])).length) Slot.unset).toArray = ls at hl ⊢
  have hl : lv_has ls 1 [(0, .ref (gad G 12))] := hl
  refine lv_aload_n hx hb d_Pr_reset_0 rfl (lv_at hl 0 rfl) ?_
  refine va_get (D := gD G) (ci := 4) (v := .ref (gad G 13)) (C := R_Pr) (T := F_Pr) (N := 2) hx hb (wl_Pr hT) (fun _ h9 => h9) hown hK hP 12 rfl rfl 1 (by decide) (k_113 hT) (fun _ h9 => h9) rfl d_Pr_reset_1 ?_
  refine lv_iconst (v := 1) hx hb d_Pr_reset_4 (by decide) ?_
  refine cx_S (n := 2) (As := [.ref (gad G 13), .int 1]) (rest := []) ⟨hx, hb, hml, hown, fun _ h9 => nomatch h9⟩ (K_fillI (q0 := 13) (t0 := 0) (f := (cJ σ 5)) 1 rfl rfl (by decide)) (k_110 hT) (k_65 hT) (k_66 hT) (k_4 hT) rfl (by decide +kernel) (fun U hU hW => Fw.of g (hc.at g hS hP U hU hW)) ⟨by decide, by decide⟩ ⟨by decide, by decide⟩ hl.1 (Nat.le_of_ble_eq_true rfl) d_Pr_reset_5 (fun _ h9 => h9) hS (fun _ _ _ _ _ _ _ h9 => h9.elim) (fun v t H locs ht9 hRt hz hk hS => ?_)
  obtain ⟨rfl, hP⟩ := hRt
  rw [ht9] at hP
  have hP : va_P (gD G) classes (cw G (sJ σ 5 (fI (cJ σ 5) 8 1))) H := hP
  have hD : va_D (gA G) (cw G (sJ σ 5 (fI (cJ σ 5) 8 1))) := g.d
  refine W.eq (g2 := F0 m 8 ls []) rfl ?_
  refine lv_aload_n hx hb d_Pr_reset_8 rfl (lv_at hl 0 rfl) ?_
  refine lv_iconst (v := 0) hx hb d_Pr_reset_9 (by decide) ?_
  refine va_put (D := gD G) (ci := 4) (v := .int 0) (ty := .int) (C := R_Pr) (T := F_Pr) (N := 2) hx hb (wl_Pr hT) (fun _ h9 => h9) fy_Pr fy_Pr_ok fn_Pr hown hK hP hD hS 12 rfl rfl 0 (by decide) (k_111 hT) (fun _ h9 => h9) rfl (by decide +kernel) rfl rfl (Nat.le_of_ble_eq_true rfl) d_Pr_reset_10 (fun H locs hP hD hS => ?_)
  have hP : va_P (gD G) classes (cw G (sI (sJ σ 5 (fI (cJ σ 5) 8 1)) 10 0)) H := hP
  have hD : va_D (gA G) (cw G (sI (sJ σ 5 (fI (cJ σ 5) 8 1)) 10 0)) := g.d
  exact end_v (u := (sI (sJ σ 5 (fI (cJ σ 5) 8 1)) 10 0)) hx hb hr hlocks hS hP d_Pr_reset_13 (rfl)

set_option maxHeartbeats 4000000 in
set_option maxRecDepth 100000 in
theorem K_Pc_start {l : Launch} {G : GT} (g : GOK l G) (σ : CS) (i : Int32) : cx_M l y_Pc_start (.code y_Pc_start b_Pc_start 2 none) 7 110 (gA G) [.ref (gad G 0), .int i] (Cw G σ) (Rv G (fun u => badR i 23 = false ∧ u = stF σ i)) (Tw G (fun E u => E = "java/lang/IllegalArgumentException" ∧ badR i 23 = true ∧ u = σ)) := by
  refine cx_of (by decide +kernel) ?_
  intro p e s m below meth c s₁ B hml ht hc
  have hx := B.exec
  have hb := B.bytes
  have hr := B.returns
  have hown : s.vm.findClass R_Pc = some m.cls := findClass_of_methodNamed B.named
  have hlocks := B.notSynchronized
  have hT := g.tb hc
  have hK := g.k hc
  have hD := g.d (σ := σ)
  have hS : va_S (gA G) s.heap s.heap [] := va_S.rf
  have hP := hc.2.2
  have hl := lv_entry ([.ref (gad G 0), .int i]) (n := 2) (Nat.le_of_ble_eq_true rfl)
  rw [lg_entry_eq]
  generalize (lg_sl ([.ref (gad G 0), .int i]) ++ List.replicate (2 - (lg_sl ([.ref (gad G 0), .int i])).length) Slot.unset).toArray = ls at hl ⊢
  have hl : lv_has ls 2 [(0, .ref (gad G 0)), (1, .int i)] := hl
  refine lv_iload_n hx hb d_Pc_start_0 rfl (lv_at hl 1 rfl) ?_
  refine lv_bipush (v := 23) hx hb d_Pc_start_1 (by decide) ?_
  refine cx_S (n := 2) (As := [.int i, .int 23]) (rest := []) ⟨hx, hb, hml, hown, fun _ h9 => nomatch h9⟩ (K_Pc_refuseOutside g σ i 23) (k_294 hT) (k_295 hT) (k_296 hT) (k_1 hT) rfl (by decide +kernel) (hc.at g hS hP) ⟨by decide, by decide⟩ ⟨by decide, by decide⟩ hl.1 (Nat.le_of_ble_eq_true rfl) d_Pc_start_3 (fun _ h9 => h9) hS (fun E ce q t H1 locs ht9 hTx hz hk hS hce hcv hcl => ?_) (fun v t H locs ht9 hRt hz hk hS => ?_)
  · obtain ⟨u, hq, hP⟩ := hTx; rw [ht9] at hP; exact cx_out ht hlocks hce hcv hcl hS (fun t9 h9 _ => Tw.i (u := u) (⟨hq.1, hq.2.1, hq.2.2⟩) (by rw [h9]; exact hP)) (by decide) (by decide)
  · obtain ⟨u, rfl, ⟨hb3, eu⟩, hP⟩ := hRt
    rw [eu, ht9] at hP
    have hD : va_D (gA G) (cw G σ) := g.d
    refine W.eq (g2 := F0 m 6 ls []) rfl ?_
    refine lv_aload_n hx hb d_Pc_start_6 rfl (lv_at hl 0 rfl) ?_
    refine lv_iload_n hx hb d_Pc_start_7 rfl (lv_at hl 1 rfl) ?_
    refine va_put (D := gD G) (ci := 6) (v := .int i) (ty := .int) (C := R_Pc) (T := F_Pc) (N := 12) hx hb (wl_Pc hT) (fun _ h9 => h9) fy_Pc fy_Pc_ok fn_Pc hown hK hP hD hS 0 rfl rfl 9 (by decide) (k_188 hT) (fun _ h9 => h9) rfl (by decide +kernel) rfl rfl (Nat.le_of_ble_eq_true rfl) d_Pc_start_8 (fun H locs hP hD hS => ?_)
    have hP : va_P (gD G) classes (cw G (sI σ 0 i)) H := hP
    have hD : va_D (gA G) (cw G (sI σ 0 i)) := g.d
    refine lv_aload_n hx hb d_Pc_start_11 rfl (lv_at hl 0 rfl) ?_
    refine lv_iconst (v := 0) hx hb d_Pc_start_12 (by decide) ?_
    refine va_put (D := gD G) (ci := 6) (v := .int 0) (ty := .boolean) (C := R_Pc) (T := F_Pc) (N := 12) hx hb (wl_Pc hT) (fun _ h9 => h9) fy_Pc fy_Pc_ok fn_Pc hown hK hP hD hS 0 rfl rfl 10 (by decide) (k_189 hT) (fun _ h9 => h9) rfl (by decide +kernel) rfl rfl (Nat.le_of_ble_eq_true rfl) d_Pc_start_13 (fun H locs hP hD hS => ?_)
    have hP : va_P (gD G) classes (cw G (sI (sI σ 0 i) 1 0)) H := hP
    have hD : va_D (gA G) (cw G (sI (sI σ 0 i) 1 0)) := g.d
    refine lv_aload_n hx hb d_Pc_start_16 rfl (lv_at hl 0 rfl) ?_
    refine lv_iconst (v := 0) hx hb d_Pc_start_17 (by decide) ?_
    refine va_put (D := gD G) (ci := 6) (v := .int 0) (ty := .int) (C := R_Pc) (T := F_Pc) (N := 12) hx hb (wl_Pc hT) (fun _ h9 => h9) fy_Pc fy_Pc_ok fn_Pc hown hK hP hD hS 0 rfl rfl 11 (by decide) (k_190 hT) (fun _ h9 => h9) rfl (by decide +kernel) rfl rfl (Nat.le_of_ble_eq_true rfl) d_Pc_start_18 (fun H locs hP hD hS => ?_)
    have hP : va_P (gD G) classes (cw G (sI (sI (sI σ 0 i) 1 0) 2 0)) H := hP
    have hD : va_D (gA G) (cw G (sI (sI (sI σ 0 i) 1 0) 2 0)) := g.d
    refine lv_aload_n hx hb d_Pc_start_21 rfl (lv_at hl 0 rfl) ?_
    refine va_get (D := gD G) (ci := 6) (v := .ref (gad G 3)) (C := R_Pc) (T := F_Pc) (N := 12) hx hb (wl_Pc hT) (fun _ h9 => h9) hown hK hP 0 rfl rfl 2 (by decide) (k_181 hT) (fun _ h9 => h9) rfl d_Pc_start_22 ?_
    refine lv_iconst (v := 0) hx hb d_Pc_start_25 (by decide) ?_
    refine cx_S (n := 2) (As := [.ref (gad G 3), .int 0]) (rest := []) ⟨hx, hb, hml, hown, fun _ h9 => nomatch h9⟩ (K_fillI (q0 := 3) (t0 := 0) (f := (cJ σ 0)) 0 rfl rfl (by decide)) (k_390 hT) (k_65 hT) (k_66 hT) (k_4 hT) rfl (by decide +kernel) (fun U hU hW => Fw.of g (hc.at g hS hP U hU hW)) ⟨by decide, by decide⟩ ⟨by decide, by decide⟩ hl.1 (Nat.le_of_ble_eq_true rfl) d_Pc_start_26 (fun _ h9 => h9) hS (fun _ _ _ _ _ _ _ h9 => h9.elim) (fun v t H locs ht9 hRt hz hk hS => ?_)
    obtain ⟨rfl, hP⟩ := hRt
    rw [ht9] at hP
    have hP : va_P (gD G) classes (cw G (sJ (sI (sI (sI σ 0 i) 1 0) 2 0) 0 (fI (cJ σ 0) 8 0))) H := hP
    have hD : va_D (gA G) (cw G (sJ (sI (sI (sI σ 0 i) 1 0) 2 0) 0 (fI (cJ σ 0) 8 0))) := g.d
    refine W.eq (g2 := F0 m 29 ls []) rfl ?_
    refine lv_aload_n hx hb d_Pc_start_29 rfl (lv_at hl 0 rfl) ?_
    refine va_get (D := gD G) (ci := 6) (v := .ref (gad G 4)) (C := R_Pc) (T := F_Pc) (N := 12) hx hb (wl_Pc hT) (fun _ h9 => h9) hown hK hP 0 rfl rfl 3 (by decide) (k_182 hT) (fun _ h9 => h9) rfl d_Pc_start_30 ?_
    refine lv_dconst0 hx hb d_Pc_start_33 ?_
    refine cx_S (n := 2) (As := [.ref (gad G 4), .double FP.dconst0]) (rest := []) ⟨hx, hb, hml, hown, fun _ h9 => nomatch h9⟩ (K_fillD (q0 := 4) (t0 := 1) (f := (cF σ 1)) FP.dconst0 rfl rfl (by decide)) (k_391 hT) (k_392 hT) (k_393 hT) (k_4 hT) rfl (by decide +kernel) (fun U hU hW => Fw.of g (hc.at g hS hP U hU hW)) ⟨by decide, by decide⟩ ⟨by decide, by decide⟩ hl.1 (Nat.le_of_ble_eq_true rfl) d_Pc_start_34 (fun _ h9 => h9) hS (fun _ _ _ _ _ _ _ h9 => h9.elim) (fun v t H locs ht9 hRt hz hk hS => ?_)
    obtain ⟨rfl, hP⟩ := hRt
    rw [ht9] at hP
    have hP : va_P (gD G) classes (cw G (sF (sJ (sI (sI (sI σ 0 i) 1 0) 2 0) 0 (fI (cJ σ 0) 8 0)) 1 (fD (cF σ 1) 4 FP.dconst0))) H := hP
    have hD : va_D (gA G) (cw G (sF (sJ (sI (sI (sI σ 0 i) 1 0) 2 0) 0 (fI (cJ σ 0) 8 0)) 1 (fD (cF σ 1) 4 FP.dconst0))) := g.d
    refine W.eq (g2 := F0 m 37 ls []) rfl ?_
    refine lv_aload_n hx hb d_Pc_start_37 rfl (lv_at hl 0 rfl) ?_
    refine va_get (D := gD G) (ci := 6) (v := .ref (gad G 5)) (C := R_Pc) (T := F_Pc) (N := 12) hx hb (wl_Pc hT) (fun _ h9 => h9) hown hK hP 0 rfl rfl 4 (by decide) (k_183 hT) (fun _ h9 => h9) rfl d_Pc_start_38 ?_
    refine cx_V (n := 0) (C := R_Ck) (As := []) (rest := []) ⟨hx, hb, hml, hown, fun _ h9 => nomatch h9⟩ (K_Ck_reset g (sF (sJ (sI (sI (sI σ 0 i) 1 0) 2 0) 0 (fI (cJ σ 0) 8 0)) 1 (fD (cF σ 1) 4 FP.dconst0))) (k_394 hT) (k_395 hT) (k_396 hT) (k_397 hT) (k_2 hT) rfl (by decide +kernel) (va_recv hK hP (ci := 0) (q0 := 5) rfl rfl) (hc.at g hS hP) ⟨by decide, by decide⟩ ⟨by decide, by decide⟩ hl.1 (Nat.le_of_ble_eq_true rfl) d_Pc_start_41 (fun _ h9 => h9) hS (fun _ _ _ _ _ _ _ h9 => h9.elim) (fun v t H locs ht9 hRt hz hk hS => ?_)
    obtain ⟨u, rfl, eu, hP⟩ := hRt
    rw [eu, ht9] at hP
    have hD : va_D (gA G) (cw G (ckR (sF (sJ (sI (sI (sI σ 0 i) 1 0) 2 0) 0 (fI (cJ σ 0) 8 0)) 1 (fD (cF σ 1) 4 FP.dconst0)))) := g.d
    refine W.eq (g2 := F0 m 44 ls []) rfl ?_
    refine lv_aload_n hx hb d_Pc_start_44 rfl (lv_at hl 0 rfl) ?_
    refine va_get (D := gD G) (ci := 6) (v := .ref (gad G 7)) (C := R_Pc) (T := F_Pc) (N := 12) hx hb (wl_Pc hT) (fun _ h9 => h9) hown hK hP 0 rfl rfl 5 (by decide) (k_184 hT) (fun _ h9 => h9) rfl d_Pc_start_45 ?_
    refine cx_V (n := 0) (C := R_Cc) (As := []) (rest := []) ⟨hx, hb, hml, hown, fun _ h9 => nomatch h9⟩ (K_Cc_empty g (ckR (sF (sJ (sI (sI (sI σ 0 i) 1 0) 2 0) 0 (fI (cJ σ 0) 8 0)) 1 (fD (cF σ 1) 4 FP.dconst0)))) (k_399 hT) (k_61 hT) (k_62 hT) (k_63 hT) (k_3 hT) rfl (by decide +kernel) (va_recv hK hP (ci := 1) (q0 := 7) rfl rfl) (hc.at g hS hP) ⟨by decide, by decide⟩ ⟨by decide, by decide⟩ hl.1 (Nat.le_of_ble_eq_true rfl) d_Pc_start_48 (fun _ h9 => h9) hS (fun _ _ _ _ _ _ _ h9 => h9.elim) (fun v t H locs ht9 hRt hz hk hS => ?_)
    obtain ⟨u, rfl, eu, hP⟩ := hRt
    rw [eu, ht9] at hP
    have hD : va_D (gA G) (cw G (ccR (ckR (sF (sJ (sI (sI (sI σ 0 i) 1 0) 2 0) 0 (fI (cJ σ 0) 8 0)) 1 (fD (cF σ 1) 4 FP.dconst0))))) := g.d
    refine W.eq (g2 := F0 m 51 ls []) rfl ?_
    refine lv_aload_n hx hb d_Pc_start_51 rfl (lv_at hl 0 rfl) ?_
    refine va_get (D := gD G) (ci := 6) (v := .ref (gad G 9)) (C := R_Pc) (T := F_Pc) (N := 12) hx hb (wl_Pc hT) (fun _ h9 => h9) hown hK hP 0 rfl rfl 6 (by decide) (k_185 hT) (fun _ h9 => h9) rfl d_Pc_start_52 ?_
    refine cx_V (n := 0) (C := R_Dc) (As := []) (rest := []) ⟨hx, hb, hml, hown, fun _ h9 => nomatch h9⟩ (K_Dc_empty g (ccR (ckR (sF (sJ (sI (sI (sI σ 0 i) 1 0) 2 0) 0 (fI (cJ σ 0) 8 0)) 1 (fD (cF σ 1) 4 FP.dconst0))))) (k_400 hT) (k_82 hT) (k_83 hT) (k_84 hT) (k_5 hT) rfl (by decide +kernel) (va_recv hK hP (ci := 2) (q0 := 9) rfl rfl) (hc.at g hS hP) ⟨by decide, by decide⟩ ⟨by decide, by decide⟩ hl.1 (Nat.le_of_ble_eq_true rfl) d_Pc_start_55 (fun _ h9 => h9) hS (fun _ _ _ _ _ _ _ h9 => h9.elim) (fun v t H locs ht9 hRt hz hk hS => ?_)
    obtain ⟨u, rfl, eu, hP⟩ := hRt
    rw [eu, ht9] at hP
    have hD : va_D (gA G) (cw G (dcR (ccR (ckR (sF (sJ (sI (sI (sI σ 0 i) 1 0) 2 0) 0 (fI (cJ σ 0) 8 0)) 1 (fD (cF σ 1) 4 FP.dconst0)))))) := g.d
    refine W.eq (g2 := F0 m 58 ls []) rfl ?_
    refine lv_aload_n hx hb d_Pc_start_58 rfl (lv_at hl 0 rfl) ?_
    refine va_get (D := gD G) (ci := 6) (v := .ref (gad G 12)) (C := R_Pc) (T := F_Pc) (N := 12) hx hb (wl_Pc hT) (fun _ h9 => h9) hown hK hP 0 rfl rfl 7 (by decide) (k_186 hT) (fun _ h9 => h9) rfl d_Pc_start_59 ?_
    refine cx_V (n := 0) (C := R_Pr) (As := []) (rest := []) ⟨hx, hb, hml, hown, fun _ h9 => nomatch h9⟩ (K_Pr_reset g (dcR (ccR (ckR (sF (sJ (sI (sI (sI σ 0 i) 1 0) 2 0) 0 (fI (cJ σ 0) 8 0)) 1 (fD (cF σ 1) 4 FP.dconst0)))))) (k_401 hT) (k_107 hT) (k_108 hT) (k_109 hT) (k_6 hT) rfl (by decide +kernel) (va_recv hK hP (ci := 4) (q0 := 12) rfl rfl) (hc.at g hS hP) ⟨by decide, by decide⟩ ⟨by decide, by decide⟩ hl.1 (Nat.le_of_ble_eq_true rfl) d_Pc_start_62 (fun _ h9 => h9) hS (fun _ _ _ _ _ _ _ h9 => h9.elim) (fun v t H locs ht9 hRt hz hk hS => ?_)
    obtain ⟨u, rfl, eu, hP⟩ := hRt
    rw [eu, ht9] at hP
    have hD : va_D (gA G) (cw G (prR (dcR (ccR (ckR (sF (sJ (sI (sI (sI σ 0 i) 1 0) 2 0) 0 (fI (cJ σ 0) 8 0)) 1 (fD (cF σ 1) 4 FP.dconst0))))))) := g.d
    refine W.eq (g2 := F0 m 65 ls []) rfl ?_
    exact end_v (u := (prR (dcR (ccR (ckR (sF (sJ (sI (sI (sI σ 0 i) 1 0) 2 0) 0 (fI (cJ σ 0) 8 0)) 1 (fD (cF σ 1) 4 FP.dconst0))))))) hx hb hr hlocks hS hP d_Pc_start_65 (⟨hb3, rfl⟩)

