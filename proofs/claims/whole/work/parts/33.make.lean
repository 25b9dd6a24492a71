/-! CONSTRUCTORS: rows for arrays of known classes -/
section Make
abbrev tyK (K : Nat → ClassId) : List (ClassId × FieldType) := [(K 0, .int), (K 1, .double), (K 2, .boolean), (K 3, .object R_In), (K 4, .long)]
variable {p : Program} {l : Launch} {e : Env} {R : Room} {s : State} {m : MethodId} {args : Array Value} {below : List Frame} {meth : Method} {c : Code} {H : Heap} {locs : List Loc} {cells slots : Nat} {Q : State → Prop} {cc : ByteArray} {pc : Nat} {ls : Array Slot} {rest : List Value} {D : va_G} {cl : List vw_C} {A : Nat → Prop} {tys : List (ClassId × FieldType)} {ws : va_W} {H0 : Heap}
theorem RA_uniq {U : State} {a b : ClassId} {ty : FieldType} (h1 : va_RA U a ty) (h2 : va_RA U b ty) : a = b := by
  cases ty with
  | object C =>
    obtain ⟨_, _, _, _, _, e1⟩ := h1
    obtain ⟨_, _, _, _, _, e2⟩ := h2
    exact Option.some.inj (e1.symm.trans e2)
  | _ => exact Option.some.inj (Eq.trans (Eq.symm h1) h2)
theorem nwA (hexec : p.tables.exec = Jvm.exec) (hb : c.code = cc) {atype : ArrayType} (harr : (Cond.arrayClass (newarray.typeOf atype)).before args s = true) {ty : FieldType} (hty : newarray.typeOf atype = ty) (hK : va_K D cl tys s) (hP : va_P D cl ws H) (hD : va_D A ws) (hS : va_S A H0 H locs) (hA : ∀ q, H0.size ≤ q → A q) (t0 : Nat) {cA : ClassId} (ht : tys[t0]? = some (cA, ty))
    {n : Int32} {N' : Nat} {a0 : vp_A} (ha : ∀ cA : ClassId, vp_cell cA a0 = arrV cA N' (fun _ => defaultValue ty)) (hn : ¬ n < 0) (hN : n.toNatClampNeg = N') (hbytes : N' * componentBytes ty ≤ 536870912) (hcells : cells + 1 ≤ R.cells) (hslots : slots + N' ≤ R.slots) (hdg : decode cc pc = .ok (.newarray atype, 2))
    (kk : ∀ (q : Nat) (H1 : Heap), va_P D cl (ws ++ [(q, .inl (cA, a0))]) H1 → va_D A (ws ++ [(q, .inl (cA, a0))]) → va_S A H0 H1 locs → W p l e R s m args below meth c H1 locs (cells + 1) (slots + N') Q (F0 m (pc + 2) ls (.ref q :: rest))) : W p l e R s m args below meth c H locs cells slots Q (F0 m pc ls (.int n :: rest)) := by
  refine va_newa hexec hb harr hty hK hP hD hS hA ha hn hN hbytes hcells hslots hdg (fun q cA' H1 hK' hP' hD' hS' => ?_)
  have e1 := (hK'.2 tys.length (cA', ty) (by rw [List.getElem?_append_right (Nat.le_refl _), Nat.sub_self]; rfl)).2
  have := RA_uniq e1 (hK.2 t0 _ ht).2
  subst this
  exact kk q H1 hP' hD' hS'
theorem nwQ (hexec : p.tables.exec = Jvm.exec) (hb : c.code = cc) {own C : String} {index : Nat} (hown : s.vm.findClass own = some m.cls) (hclink : (Cond.classLink own index C).before args s = true) (hover : va_AO C s) (hK : va_K D cl tys s) (hP : va_P D cl ws H) (hD : va_D A ws) (hS : va_S A H0 H locs) (hA : ∀ q, H0.size ≤ q → A q) (t0 : Nat) {cA : ClassId} (ht : tys[t0]? = some (cA, .object C))
    {n : Int32} {N' : Nat} (hn : ¬ n < 0) (hN : n.toNatClampNeg = N') (hbytes : N' * 4 ≤ 536870912) (hcells : cells + 1 ≤ R.cells) (hslots : slots + N' ≤ R.slots) (hdg : decode cc pc = .ok (.anewarray index, 3))
    (kk : ∀ (q : Nat) (H1 : Heap), va_P D cl (ws ++ [(q, .inl (cA, N', aQ (fun _ => none)))]) H1 → va_D A (ws ++ [(q, .inl (cA, N', aQ (fun _ => none)))]) → va_S A H0 H1 locs → W p l e R s m args below meth c H1 locs (cells + 1) (slots + N') Q (F0 m (pc + 3) ls (.ref q :: rest))) : W p l e R s m args below meth c H locs cells slots Q (F0 m pc ls (.int n :: rest)) := by
  refine va_newq hexec hb hown hclink hover hK hP hD hS hA hn hN hbytes hcells hslots hdg (fun q cA' H1 hK' hP' hD' hS' => ?_)
  have e1 := (hK'.2 tys.length (cA', .object C) (by rw [List.getElem?_append_right (Nat.le_refl _), Nat.sub_self]; rfl)).2
  have := RA_uniq e1 (hK.2 t0 _ ht).2
  subst this
  exact kk q H1 hP' hD' hS'
theorem Fw.call {U : State} {g : JFrame} {mk : MethodId} {a : Array Value} (h : Fw A D cl tys ws U) : Fw A D cl tys ws (U.calling g mk a) := ⟨h.1, h.2.1, va_K.moved (u := U) (U := U.calling g mk a) (Vm.Alike.refl U.vm) h.2.2.1, h.2.2.2.1, h.2.2.2.2.warm (State.WarmedH.refl U)⟩
end Make
theorem va_D.re {A : Nat → Prop} {a b : va_W} (h : va_D A a) (e : ∀ k : Nat, (b[k]?).map (fun q => q.1) = (a[k]?).map (fun q => q.1)) : va_D A b := by
  have f : ∀ {k : Nat} {q : Nat × va_E}, b[k]? = some q → ∃ q', a[k]? = some q' ∧ q'.1 = q.1 := by
    intro k q hq
    have := e k
    rw [hq] at this
    cases ha : a[k]? with
    | none => rw [ha] at this; cases this
    | some q' => rw [ha] at this; exact ⟨q', rfl, (Option.some.inj this).symm⟩
  refine ⟨fun i j p q hp hq e1 => ?_, fun k q hq => ?_⟩
  · obtain ⟨p', a1, a2⟩ := f hp
    obtain ⟨q', b1, b2⟩ := f hq
    exact h.1 i j p' q' a1 b1 (by rw [a2, b2]; exact e1)
  · obtain ⟨q', b1, b2⟩ := f hq
    rw [← b2]; exact h.2 k q' b1
set_option maxHeartbeats 4000000 in
set_option maxRecDepth 100000 in
theorem S_Cc_empty (l : Launch) (D : va_G) (K : Nat → ClassId) (A : Nat → Prop) (h0 q1 : Nat) (x0 : Int32) (g0 : Nat → Int32) : cx_M l y_Cc_empty (.code y_Cc_empty b_Cc_empty 1 none) 1 23 A [.ref h0] (Fw A D classes (tyK K) [(h0, .inr (1, [.int x0, .ref q1])), (q1, .inl (K 0, 2, aI g0))]) (fun v t => v = none ∧ va_P D classes [(h0, .inr (1, [.int 0, .ref q1])), (q1, .inl (K 0, 2, aI (fI g0 2 (-1))))] t.heap) Tn := by
  refine cx_of (by decide +kernel) ?_
  intro p e s m below meth c s₁ B hml ht hc
  obtain ⟨hA, hP, hK, hD, hT⟩ := hc
  have hx := B.exec
  have hb := B.bytes
  have hr := B.returns
  have hown : s.vm.findClass R_Cc = some m.cls := findClass_of_methodNamed B.named
  have hlocks := B.notSynchronized
  have hS : va_S A s.heap s.heap [] := va_S.rf
  have hl := lv_entry ([.ref h0]) (n := 1) (Nat.le_of_ble_eq_true rfl)
  rw [lg_entry_eq]
  generalize (lg_sl ([.ref h0]) ++ List.replicate (1 - (lg_sl ([.ref h0])).length) Slot.unset).toArray = ls at hl ⊢
  have hl : lv_has ls 1 [(0, .ref h0)] := hl
  refine lv_aload_n hx hb d_Cc_empty_0 rfl (lv_at hl 0 rfl) ?_
  refine va_get (D := D) (ci := 1) (v := .ref q1) (C := R_Cc) (T := F_Cc) (N := 2) hx hb (wl_Cc hT) (fun _ h9 => h9) hown hK hP 0 rfl rfl 1 (by decide) (k_69 hT) (fun _ h9 => h9) rfl d_Cc_empty_1 ?_
  refine lv_iconst (v := (-1)) hx hb d_Cc_empty_4 (by decide) ?_
  refine cx_S (n := 2) (As := [.ref q1, .int (-1)]) (rest := []) ⟨hx, hb, hml, hown, fun _ h9 => nomatch h9⟩ (K_fillI (ws := [(h0, .inr (1, [.int x0, .ref q1])), (q1, .inl (K 0, 2, aI g0))]) (q0 := 1) (t0 := 0) (-1) rfl rfl (by decide)) (k_64 hT) (k_65 hT) (k_66 hT) (k_4 hT) rfl (by decide +kernel) (fun U hU hW => ⟨fun q hq => hA q (Nat.le_trans hS.1 (by rw [← hU]; exact hq)), by rw [hU]; exact hP, va_K.moved hW.alike hK, hD, hT.warm hW⟩) ⟨by decide, by decide⟩ ⟨by decide, by decide⟩ hl.1 (Nat.le_of_ble_eq_true rfl) d_Cc_empty_5 (fun _ h9 => h9) hS (fun _ _ _ _ _ _ _ h9 => h9.elim) (fun v9 t H locs ht9 hRt hz hk hS => ?_)
  obtain ⟨rfl, hP⟩ := hRt
  rw [ht9] at hP
  have hP : va_P D classes [(h0, .inr (1, [.int x0, .ref q1])), (q1, .inl (K 0, 2, aI (fI g0 2 (-1))))] H := hP
  have hD : va_D A [(h0, .inr (1, [.int x0, .ref q1])), (q1, .inl (K 0, 2, aI (fI g0 2 (-1))))] := va_D.re hD (fun k => by match k with | 0 => rfl | 1 => rfl | _ + 2 => rfl)
  refine W.eq (g2 := F0 m 8 ls []) rfl ?_
  refine lv_aload_n hx hb d_Cc_empty_8 rfl (lv_at hl 0 rfl) ?_
  refine lv_iconst (v := 0) hx hb d_Cc_empty_9 (by decide) ?_
  refine va_put (D := D) (ci := 1) (v := .int 0) (ty := .int) (C := R_Cc) (T := F_Cc) (N := 2) hx hb (wl_Cc hT) (fun _ h9 => h9) fy_Cc fy_Cc_ok fn_Cc hown hK hP hD hS 0 rfl rfl 0 (by decide) (k_67 hT) (fun _ h9 => h9) rfl (by decide +kernel) rfl rfl (Nat.le_of_ble_eq_true rfl) d_Cc_empty_10 (fun H locs hP hD hS => ?_)
  have hP : va_P D classes [(h0, .inr (1, [.int 0, .ref q1])), (q1, .inl (K 0, 2, aI (fI g0 2 (-1))))] H := hP
  have hD : va_D A [(h0, .inr (1, [.int 0, .ref q1])), (q1, .inl (K 0, 2, aI (fI g0 2 (-1))))] := hD
  exact cx_ret (W.vret hx hb hr (fun t h9 _ => ⟨hS.F h9, _, rfl, rfl, by rw [h9]; exact hP⟩) hS.2.2 d_Cc_empty_13 hlocks)

set_option maxHeartbeats 4000000 in
set_option maxRecDepth 100000 in
theorem S_Dc_empty (l : Launch) (D : va_G) (K : Nat → ClassId) (A : Nat → Prop) (h0 q1 q2 : Nat) (x0 x1 : Int32) (g0 g1 : Nat → Int32) : cx_M l y_Dc_empty (.code y_Dc_empty b_Dc_empty 1 none) 1 23 A [.ref h0] (Fw A D classes (tyK K) [(h0, .inr (2, [.int x0, .ref q1, .ref q2, .int x1])), (q1, .inl (K 0, 4, aI g0)), (q2, .inl (K 0, 4, aI g1))]) (fun v t => v = none ∧ va_P D classes [(h0, .inr (2, [.int 0, .ref q1, .ref q2, .int 0])), (q1, .inl (K 0, 4, aI (fI g0 4 (-1)))), (q2, .inl (K 0, 4, aI (fI g1 4 0)))] t.heap) Tn := by
  refine cx_of (by decide +kernel) ?_
  intro p e s m below meth c s₁ B hml ht hc
  obtain ⟨hA, hP, hK, hD, hT⟩ := hc
  have hx := B.exec
  have hb := B.bytes
  have hr := B.returns
  have hown : s.vm.findClass R_Dc = some m.cls := findClass_of_methodNamed B.named
  have hlocks := B.notSynchronized
  have hS : va_S A s.heap s.heap [] := va_S.rf
  have hl := lv_entry ([.ref h0]) (n := 1) (Nat.le_of_ble_eq_true rfl)
  rw [lg_entry_eq]
  generalize (lg_sl ([.ref h0]) ++ List.replicate (1 - (lg_sl ([.ref h0])).length) Slot.unset).toArray = ls at hl ⊢
  have hl : lv_has ls 1 [(0, .ref h0)] := hl
  refine lv_aload_n hx hb d_Dc_empty_0 rfl (lv_at hl 0 rfl) ?_
  refine va_get (D := D) (ci := 2) (v := .ref q1) (C := R_Dc) (T := F_Dc) (N := 4) hx hb (wl_Dc hT) (fun _ h9 => h9) hown hK hP 0 rfl rfl 1 (by decide) (k_88 hT) (fun _ h9 => h9) rfl d_Dc_empty_1 ?_
  refine lv_iconst (v := (-1)) hx hb d_Dc_empty_4 (by decide) ?_
  refine cx_S (n := 2) (As := [.ref q1, .int (-1)]) (rest := []) ⟨hx, hb, hml, hown, fun _ h9 => nomatch h9⟩ (K_fillI (ws := [(h0, .inr (2, [.int x0, .ref q1, .ref q2, .int x1])), (q1, .inl (K 0, 4, aI g0)), (q2, .inl (K 0, 4, aI g1))]) (q0 := 1) (t0 := 0) (-1) rfl rfl (by decide)) (k_85 hT) (k_65 hT) (k_66 hT) (k_4 hT) rfl (by decide +kernel) (fun U hU hW => ⟨fun q hq => hA q (Nat.le_trans hS.1 (by rw [← hU]; exact hq)), by rw [hU]; exact hP, va_K.moved hW.alike hK, hD, hT.warm hW⟩) ⟨by decide, by decide⟩ ⟨by decide, by decide⟩ hl.1 (Nat.le_of_ble_eq_true rfl) d_Dc_empty_5 (fun _ h9 => h9) hS (fun _ _ _ _ _ _ _ h9 => h9.elim) (fun v9 t H locs ht9 hRt hz hk hS => ?_)
  obtain ⟨rfl, hP⟩ := hRt
  rw [ht9] at hP
  have hP : va_P D classes [(h0, .inr (2, [.int x0, .ref q1, .ref q2, .int x1])), (q1, .inl (K 0, 4, aI (fI g0 4 (-1)))), (q2, .inl (K 0, 4, aI g1))] H := hP
  have hD : va_D A [(h0, .inr (2, [.int x0, .ref q1, .ref q2, .int x1])), (q1, .inl (K 0, 4, aI (fI g0 4 (-1)))), (q2, .inl (K 0, 4, aI g1))] := va_D.re hD (fun k => by match k with | 0 => rfl | 1 => rfl | 2 => rfl | _ + 3 => rfl)
  refine W.eq (g2 := F0 m 8 ls []) rfl ?_
  refine lv_aload_n hx hb d_Dc_empty_8 rfl (lv_at hl 0 rfl) ?_
  refine va_get (D := D) (ci := 2) (v := .ref q2) (C := R_Dc) (T := F_Dc) (N := 4) hx hb (wl_Dc hT) (fun _ h9 => h9) hown hK hP 0 rfl rfl 2 (by decide) (k_89 hT) (fun _ h9 => h9) rfl d_Dc_empty_9 ?_
  refine lv_iconst (v := 0) hx hb d_Dc_empty_12 (by decide) ?_
  refine cx_S (n := 2) (As := [.ref q2, .int 0]) (rest := []) ⟨hx, hb, hml, hown, fun _ h9 => nomatch h9⟩ (K_fillI (ws := [(h0, .inr (2, [.int x0, .ref q1, .ref q2, .int x1])), (q1, .inl (K 0, 4, aI (fI g0 4 (-1)))), (q2, .inl (K 0, 4, aI g1))]) (q0 := 2) (t0 := 0) 0 rfl rfl (by decide)) (k_85 hT) (k_65 hT) (k_66 hT) (k_4 hT) rfl (by decide +kernel) (fun U hU hW => ⟨fun q hq => hA q (Nat.le_trans hS.1 (by rw [← hU]; exact hq)), by rw [hU]; exact hP, va_K.moved hW.alike hK, hD, hT.warm hW⟩) ⟨by decide, by decide⟩ ⟨by decide, by decide⟩ hl.1 (Nat.le_of_ble_eq_true rfl) d_Dc_empty_13 (fun _ h9 => h9) hS (fun _ _ _ _ _ _ _ h9 => h9.elim) (fun v9 t H locs ht9 hRt hz hk hS => ?_)
  obtain ⟨rfl, hP⟩ := hRt
  rw [ht9] at hP
  have hP : va_P D classes [(h0, .inr (2, [.int x0, .ref q1, .ref q2, .int x1])), (q1, .inl (K 0, 4, aI (fI g0 4 (-1)))), (q2, .inl (K 0, 4, aI (fI g1 4 0)))] H := hP
  have hD : va_D A [(h0, .inr (2, [.int x0, .ref q1, .ref q2, .int x1])), (q1, .inl (K 0, 4, aI (fI g0 4 (-1)))), (q2, .inl (K 0, 4, aI (fI g1 4 0)))] := va_D.re hD (fun k => by match k with | 0 => rfl | 1 => rfl | 2 => rfl | _ + 3 => rfl)
  refine W.eq (g2 := F0 m 16 ls []) rfl ?_
  refine lv_aload_n hx hb d_Dc_empty_16 rfl (lv_at hl 0 rfl) ?_
  refine lv_iconst (v := 0) hx hb d_Dc_empty_17 (by decide) ?_
  refine va_put (D := D) (ci := 2) (v := .int 0) (ty := .int) (C := R_Dc) (T := F_Dc) (N := 4) hx hb (wl_Dc hT) (fun _ h9 => h9) fy_Dc fy_Dc_ok fn_Dc hown hK hP hD hS 0 rfl rfl 3 (by decide) (k_90 hT) (fun _ h9 => h9) rfl (by decide +kernel) rfl rfl (Nat.le_of_ble_eq_true rfl) d_Dc_empty_18 (fun H locs hP hD hS => ?_)
  have hP : va_P D classes [(h0, .inr (2, [.int x0, .ref q1, .ref q2, .int 0])), (q1, .inl (K 0, 4, aI (fI g0 4 (-1)))), (q2, .inl (K 0, 4, aI (fI g1 4 0)))] H := hP
  have hD : va_D A [(h0, .inr (2, [.int x0, .ref q1, .ref q2, .int 0])), (q1, .inl (K 0, 4, aI (fI g0 4 (-1)))), (q2, .inl (K 0, 4, aI (fI g1 4 0)))] := hD
  refine lv_aload_n hx hb d_Dc_empty_21 rfl (lv_at hl 0 rfl) ?_
  refine lv_iconst (v := 0) hx hb d_Dc_empty_22 (by decide) ?_
  refine va_put (D := D) (ci := 2) (v := .int 0) (ty := .int) (C := R_Dc) (T := F_Dc) (N := 4) hx hb (wl_Dc hT) (fun _ h9 => h9) fy_Dc fy_Dc_ok fn_Dc hown hK hP hD hS 0 rfl rfl 0 (by decide) (k_86 hT) (fun _ h9 => h9) rfl (by decide +kernel) rfl rfl (Nat.le_of_ble_eq_true rfl) d_Dc_empty_23 (fun H locs hP hD hS => ?_)
  have hP : va_P D classes [(h0, .inr (2, [.int 0, .ref q1, .ref q2, .int 0])), (q1, .inl (K 0, 4, aI (fI g0 4 (-1)))), (q2, .inl (K 0, 4, aI (fI g1 4 0)))] H := hP
  have hD : va_D A [(h0, .inr (2, [.int 0, .ref q1, .ref q2, .int 0])), (q1, .inl (K 0, 4, aI (fI g0 4 (-1)))), (q2, .inl (K 0, 4, aI (fI g1 4 0)))] := hD
  exact cx_ret (W.vret hx hb hr (fun t h9 _ => ⟨hS.F h9, _, rfl, rfl, by rw [h9]; exact hP⟩) hS.2.2 d_Dc_empty_26 hlocks)

set_option maxHeartbeats 4000000 in
set_option maxRecDepth 100000 in
theorem S_Pr_reset (l : Launch) (D : va_G) (K : Nat → ClassId) (A : Nat → Prop) (h0 q1 : Nat) (x0 : Int32) (g0 : Nat → Int32) : cx_M l y_Pr_reset (.code y_Pr_reset b_Pr_reset 1 none) 1 23 A [.ref h0] (Fw A D classes (tyK K) [(h0, .inr (4, [.int x0, .ref q1])), (q1, .inl (K 0, 8, aI g0))]) (fun v t => v = none ∧ va_P D classes [(h0, .inr (4, [.int 0, .ref q1])), (q1, .inl (K 0, 8, aI (fI g0 8 1)))] t.heap) Tn := by
  refine cx_of (by decide +kernel) ?_
  intro p e s m below meth c s₁ B hml ht hc
  obtain ⟨hA, hP, hK, hD, hT⟩ := hc
  have hx := B.exec
  have hb := B.bytes
  have hr := B.returns
  have hown : s.vm.findClass R_Pr = some m.cls := findClass_of_methodNamed B.named
  have hlocks := B.notSynchronized
  have hS : va_S A s.heap s.heap [] := va_S.rf
  have hl := lv_entry ([.ref h0]) (n := 1) (Nat.le_of_ble_eq_true rfl)
  rw [lg_entry_eq]
  generalize (lg_sl ([.ref h0]) ++ List.replicate (1 - (lg_sl ([.ref h0])).length) Slot.unset).toArray = ls at hl ⊢
  have hl : lv_has ls 1 [(0, .ref h0)] := hl
  refine lv_aload_n hx hb d_Pr_reset_0 rfl (lv_at hl 0 rfl) ?_
  refine va_get (D := D) (ci := 4) (v := .ref q1) (C := R_Pr) (T := F_Pr) (N := 2) hx hb (wl_Pr hT) (fun _ h9 => h9) hown hK hP 0 rfl rfl 1 (by decide) (k_113 hT) (fun _ h9 => h9) rfl d_Pr_reset_1 ?_
  refine lv_iconst (v := 1) hx hb d_Pr_reset_4 (by decide) ?_
  refine cx_S (n := 2) (As := [.ref q1, .int 1]) (rest := []) ⟨hx, hb, hml, hown, fun _ h9 => nomatch h9⟩ (K_fillI (ws := [(h0, .inr (4, [.int x0, .ref q1])), (q1, .inl (K 0, 8, aI g0))]) (q0 := 1) (t0 := 0) 1 rfl rfl (by decide)) (k_110 hT) (k_65 hT) (k_66 hT) (k_4 hT) rfl (by decide +kernel) (fun U hU hW => ⟨fun q hq => hA q (Nat.le_trans hS.1 (by rw [← hU]; exact hq)), by rw [hU]; exact hP, va_K.moved hW.alike hK, hD, hT.warm hW⟩) ⟨by decide, by decide⟩ ⟨by decide, by decide⟩ hl.1 (Nat.le_of_ble_eq_true rfl) d_Pr_reset_5 (fun _ h9 => h9) hS (fun _ _ _ _ _ _ _ h9 => h9.elim) (fun v9 t H locs ht9 hRt hz hk hS => ?_)
  obtain ⟨rfl, hP⟩ := hRt
  rw [ht9] at hP
  have hP : va_P D classes [(h0, .inr (4, [.int x0, .ref q1])), (q1, .inl (K 0, 8, aI (fI g0 8 1)))] H := hP
  have hD : va_D A [(h0, .inr (4, [.int x0, .ref q1])), (q1, .inl (K 0, 8, aI (fI g0 8 1)))] := va_D.re hD (fun k => by match k with | 0 => rfl | 1 => rfl | _ + 2 => rfl)
  refine W.eq (g2 := F0 m 8 ls []) rfl ?_
  refine lv_aload_n hx hb d_Pr_reset_8 rfl (lv_at hl 0 rfl) ?_
  refine lv_iconst (v := 0) hx hb d_Pr_reset_9 (by decide) ?_
  refine va_put (D := D) (ci := 4) (v := .int 0) (ty := .int) (C := R_Pr) (T := F_Pr) (N := 2) hx hb (wl_Pr hT) (fun _ h9 => h9) fy_Pr fy_Pr_ok fn_Pr hown hK hP hD hS 0 rfl rfl 0 (by decide) (k_111 hT) (fun _ h9 => h9) rfl (by decide +kernel) rfl rfl (Nat.le_of_ble_eq_true rfl) d_Pr_reset_10 (fun H locs hP hD hS => ?_)
  have hP : va_P D classes [(h0, .inr (4, [.int 0, .ref q1])), (q1, .inl (K 0, 8, aI (fI g0 8 1)))] H := hP
  have hD : va_D A [(h0, .inr (4, [.int 0, .ref q1])), (q1, .inl (K 0, 8, aI (fI g0 8 1)))] := hD
  exact cx_ret (W.vret hx hb hr (fun t h9 _ => ⟨hS.F h9, _, rfl, rfl, by rw [h9]; exact hP⟩) hS.2.2 d_Pr_reset_13 hlocks)

set_option maxHeartbeats 4000000 in
set_option maxRecDepth 100000 in
theorem M_In_init (l : Launch) (D : va_G) (K : Nat → ClassId) (A : Nat → Prop) (h0 : Nat) : Met l y_In_init [.code y_In_init b_In_init 1 none] ({ frames := 1, cells := 0, slots := 0, locals := 12 }) (va_Pc [.ref h0] (fun U => Fw A D classes (tyK K) [(h0, .inr (3, [.int 0, .int 0, .int 0, .int 0, .int 0, .int 0, .int 0, .int 0]))] U ∧ va_AO R_In U)) (va_Qv (fun _ : Unit => True) (fun u t => va_P D classes [(h0, .inr (3, [.int 0, .int 0, .int 0, .int 0, .int 0, .int (-1), .int (-1), .int (-1)]))] t.heap ∧ va_D A [(h0, .inr (3, [.int 0, .int 0, .int 0, .int 0, .int 0, .int (-1), .int (-1), .int (-1)]))]) A) 0 0 A := by
  refine Met.ofW (cc := b_In_init) (maxL := 1) (ret := none) (by decide) rfl ?_
  intro p e s m args below meth c s₁ B hml hv
  obtain ⟨rfl, ⟨hA, hP, hK, hD, hT⟩, hAO⟩ := hv
  have hx := B.exec
  have hb := B.bytes
  have hr := B.returns
  have hown : s.vm.findClass R_In = some m.cls := findClass_of_methodNamed B.named
  have hlocks := B.notSynchronized
  have hin : meth.name = "<init>" := (name_of_methodNamed B.named B.method).1
  have hS : va_S A s.heap s.heap [] := va_S.rf
  have hl := lv_entry ([.ref h0]) (n := 1) (Nat.le_of_ble_eq_true rfl)
  rw [lg_entry_eq]
  generalize (lg_sl ([.ref h0]) ++ List.replicate (1 - (lg_sl ([.ref h0])).length) Slot.unset).toArray = ls at hl ⊢
  have hl : lv_has ls 1 [(0, .ref h0)] := hl
  refine lv_aload_n hx hb d_In_init_0 rfl (lv_at hl 0 rfl) ?_
  refine W.objInit hx hb hown (k_144 hT) (k_24 hT) (k_25 hT) rfl (by rw [hml]; exact hl.1) rfl d_In_init_1 (Nat.le_of_ble_eq_true rfl) (Nat.le_of_ble_eq_true rfl) ?_
  refine W.eq (g2 := F0 m 4 ls []) rfl ?_
  refine lv_aload_n hx hb d_In_init_4 rfl (lv_at hl 0 rfl) ?_
  refine lv_iconst (v := 0) hx hb d_In_init_5 (by decide) ?_
  refine va_put (D := D) (ci := 3) (v := .int 0) (ty := .int) (C := R_In) (T := F_In) (N := 8) hx hb (wl_In hT) (fun _ h9 => h9) fy_In fy_In_ok fn_In hown hK hP hD hS 0 rfl rfl 0 (by decide) (k_145 hT) (fun _ h9 => h9) rfl (by decide +kernel) rfl rfl (Nat.le_of_ble_eq_true rfl) d_In_init_6 (fun H locs hP hD hS => ?_)
  have hP : va_P D classes [(h0, .inr (3, [.int 0, .int 0, .int 0, .int 0, .int 0, .int 0, .int 0, .int 0]))] H := hP
  have hD : va_D A [(h0, .inr (3, [.int 0, .int 0, .int 0, .int 0, .int 0, .int 0, .int 0, .int 0]))] := hD
  refine lv_aload_n hx hb d_In_init_9 rfl (lv_at hl 0 rfl) ?_
  refine lv_iconst (v := 0) hx hb d_In_init_10 (by decide) ?_
  refine va_put (D := D) (ci := 3) (v := .int 0) (ty := .int) (C := R_In) (T := F_In) (N := 8) hx hb (wl_In hT) (fun _ h9 => h9) fy_In fy_In_ok fn_In hown hK hP hD hS 0 rfl rfl 1 (by decide) (k_148 hT) (fun _ h9 => h9) rfl (by decide +kernel) rfl rfl (Nat.le_of_ble_eq_true rfl) d_In_init_11 (fun H locs hP hD hS => ?_)
  have hP : va_P D classes [(h0, .inr (3, [.int 0, .int 0, .int 0, .int 0, .int 0, .int 0, .int 0, .int 0]))] H := hP
  have hD : va_D A [(h0, .inr (3, [.int 0, .int 0, .int 0, .int 0, .int 0, .int 0, .int 0, .int 0]))] := hD
  refine lv_aload_n hx hb d_In_init_14 rfl (lv_at hl 0 rfl) ?_
  refine lv_iconst (v := 0) hx hb d_In_init_15 (by decide) ?_
  refine va_put (D := D) (ci := 3) (v := .int 0) (ty := .int) (C := R_In) (T := F_In) (N := 8) hx hb (wl_In hT) (fun _ h9 => h9) fy_In fy_In_ok fn_In hown hK hP hD hS 0 rfl rfl 2 (by decide) (k_150 hT) (fun _ h9 => h9) rfl (by decide +kernel) rfl rfl (Nat.le_of_ble_eq_true rfl) d_In_init_16 (fun H locs hP hD hS => ?_)
  have hP : va_P D classes [(h0, .inr (3, [.int 0, .int 0, .int 0, .int 0, .int 0, .int 0, .int 0, .int 0]))] H := hP
  have hD : va_D A [(h0, .inr (3, [.int 0, .int 0, .int 0, .int 0, .int 0, .int 0, .int 0, .int 0]))] := hD
  refine lv_aload_n hx hb d_In_init_19 rfl (lv_at hl 0 rfl) ?_
  refine lv_iconst (v := 0) hx hb d_In_init_20 (by decide) ?_
  refine va_put (D := D) (ci := 3) (v := .int 0) (ty := .int) (C := R_In) (T := F_In) (N := 8) hx hb (wl_In hT) (fun _ h9 => h9) fy_In fy_In_ok fn_In hown hK hP hD hS 0 rfl rfl 3 (by decide) (k_152 hT) (fun _ h9 => h9) rfl (by decide +kernel) rfl rfl (Nat.le_of_ble_eq_true rfl) d_In_init_21 (fun H locs hP hD hS => ?_)
  have hP : va_P D classes [(h0, .inr (3, [.int 0, .int 0, .int 0, .int 0, .int 0, .int 0, .int 0, .int 0]))] H := hP
  have hD : va_D A [(h0, .inr (3, [.int 0, .int 0, .int 0, .int 0, .int 0, .int 0, .int 0, .int 0]))] := hD
  refine lv_aload_n hx hb d_In_init_24 rfl (lv_at hl 0 rfl) ?_
  refine lv_iconst (v := 0) hx hb d_In_init_25 (by decide) ?_
  refine va_put (D := D) (ci := 3) (v := .int 0) (ty := .int) (C := R_In) (T := F_In) (N := 8) hx hb (wl_In hT) (fun _ h9 => h9) fy_In fy_In_ok fn_In hown hK hP hD hS 0 rfl rfl 4 (by decide) (k_154 hT) (fun _ h9 => h9) rfl (by decide +kernel) rfl rfl (Nat.le_of_ble_eq_true rfl) d_In_init_26 (fun H locs hP hD hS => ?_)
  have hP : va_P D classes [(h0, .inr (3, [.int 0, .int 0, .int 0, .int 0, .int 0, .int 0, .int 0, .int 0]))] H := hP
  have hD : va_D A [(h0, .inr (3, [.int 0, .int 0, .int 0, .int 0, .int 0, .int 0, .int 0, .int 0]))] := hD
  refine lv_aload_n hx hb d_In_init_29 rfl (lv_at hl 0 rfl) ?_
  refine lv_iconst (v := (-1)) hx hb d_In_init_30 (by decide) ?_
  refine va_put (D := D) (ci := 3) (v := .int (-1)) (ty := .int) (C := R_In) (T := F_In) (N := 8) hx hb (wl_In hT) (fun _ h9 => h9) fy_In fy_In_ok fn_In hown hK hP hD hS 0 rfl rfl 5 (by decide) (k_156 hT) (fun _ h9 => h9) rfl (by decide +kernel) rfl rfl (Nat.le_of_ble_eq_true rfl) d_In_init_31 (fun H locs hP hD hS => ?_)
  have hP : va_P D classes [(h0, .inr (3, [.int 0, .int 0, .int 0, .int 0, .int 0, .int (-1), .int 0, .int 0]))] H := hP
  have hD : va_D A [(h0, .inr (3, [.int 0, .int 0, .int 0, .int 0, .int 0, .int (-1), .int 0, .int 0]))] := hD
  refine lv_aload_n hx hb d_In_init_34 rfl (lv_at hl 0 rfl) ?_
  refine lv_iconst (v := (-1)) hx hb d_In_init_35 (by decide) ?_
  refine va_put (D := D) (ci := 3) (v := .int (-1)) (ty := .int) (C := R_In) (T := F_In) (N := 8) hx hb (wl_In hT) (fun _ h9 => h9) fy_In fy_In_ok fn_In hown hK hP hD hS 0 rfl rfl 6 (by decide) (k_158 hT) (fun _ h9 => h9) rfl (by decide +kernel) rfl rfl (Nat.le_of_ble_eq_true rfl) d_In_init_36 (fun H locs hP hD hS => ?_)
  have hP : va_P D classes [(h0, .inr (3, [.int 0, .int 0, .int 0, .int 0, .int 0, .int (-1), .int (-1), .int 0]))] H := hP
  have hD : va_D A [(h0, .inr (3, [.int 0, .int 0, .int 0, .int 0, .int 0, .int (-1), .int (-1), .int 0]))] := hD
  refine lv_aload_n hx hb d_In_init_39 rfl (lv_at hl 0 rfl) ?_
  refine lv_iconst (v := (-1)) hx hb d_In_init_40 (by decide) ?_
  refine va_put (D := D) (ci := 3) (v := .int (-1)) (ty := .int) (C := R_In) (T := F_In) (N := 8) hx hb (wl_In hT) (fun _ h9 => h9) fy_In fy_In_ok fn_In hown hK hP hD hS 0 rfl rfl 7 (by decide) (k_160 hT) (fun _ h9 => h9) rfl (by decide +kernel) rfl rfl (Nat.le_of_ble_eq_true rfl) d_In_init_41 (fun H locs hP hD hS => ?_)
  have hP : va_P D classes [(h0, .inr (3, [.int 0, .int 0, .int 0, .int 0, .int 0, .int (-1), .int (-1), .int (-1)]))] H := hP
  have hD : va_D A [(h0, .inr (3, [.int 0, .int 0, .int 0, .int 0, .int 0, .int (-1), .int (-1), .int (-1)]))] := hD
  exact W.vret hx hb hr (fun t ht hW => ⟨⟨(), rfl, trivial, by rw [ht]; exact hP, hD⟩, hS.F ht⟩) hS.2.2 d_In_init_44

set_option maxHeartbeats 4000000 in
set_option maxRecDepth 100000 in
theorem M_Ck_init (l : Launch) (D : va_G) (K : Nat → ClassId) (A : Nat → Prop) (h0 : Nat) : Met l y_Ck_init [.code y_Ck_init b_Ck_init 1 none] ({ frames := 1, cells := 1, slots := 12, locals := 12 }) (va_Pc [.ref h0] (fun U => Fw A D classes (tyK K) [(h0, .inr (0, [.null, .int 0, .int 0, .int 0, .int 0]))] U ∧ va_AO R_In U)) (va_Qv (fun _ : Nat => True) (fun u t => va_P D classes [(h0, .inr (0, [.ref u, .int (-1), .int 0, .int 0, .int 0])), (u, .inl (K 0, 12, aI (fun _ => 0)))] t.heap ∧ va_D A [(h0, .inr (0, [.ref u, .int (-1), .int 0, .int 0, .int 0])), (u, .inl (K 0, 12, aI (fun _ => 0)))]) A) 1 12 A := by
  refine Met.ofW (cc := b_Ck_init) (maxL := 1) (ret := none) (by decide) rfl ?_
  intro p e s m args below meth c s₁ B hml hv
  obtain ⟨rfl, ⟨hA, hP, hK, hD, hT⟩, hAO⟩ := hv
  have hx := B.exec
  have hb := B.bytes
  have hr := B.returns
  have hown : s.vm.findClass R_Ck = some m.cls := findClass_of_methodNamed B.named
  have hlocks := B.notSynchronized
  have hin : meth.name = "<init>" := (name_of_methodNamed B.named B.method).1
  have hS : va_S A s.heap s.heap [] := va_S.rf
  have hl := lv_entry ([.ref h0]) (n := 1) (Nat.le_of_ble_eq_true rfl)
  rw [lg_entry_eq]
  generalize (lg_sl ([.ref h0]) ++ List.replicate (1 - (lg_sl ([.ref h0])).length) Slot.unset).toArray = ls at hl ⊢
  have hl : lv_has ls 1 [(0, .ref h0)] := hl
  refine lv_aload_n hx hb d_Ck_init_0 rfl (lv_at hl 0 rfl) ?_
  refine W.objInit hx hb hown (k_33 hT) (k_24 hT) (k_25 hT) rfl (by rw [hml]; exact hl.1) rfl d_Ck_init_1 (Nat.le_of_ble_eq_true rfl) (Nat.le_of_ble_eq_true rfl) ?_
  refine W.eq (g2 := F0 m 4 ls []) rfl ?_
  refine lv_aload_n hx hb d_Ck_init_4 rfl (lv_at hl 0 rfl) ?_
  refine lv_bipush (v := 12) hx hb d_Ck_init_5 (by decide) ?_
  refine nwA (atype := .int) (ty := .int) (N' := 12) (a0 := (12, aI (fun _ => 0))) hx hb (k_53 hT) rfl hK hP hD hS hA 0 rfl (fun _ => rfl) (by decide) rfl (by decide) (Nat.le_of_ble_eq_true rfl) (Nat.le_of_ble_eq_true rfl) d_Ck_init_7 (fun q1 H hP hD hS => ?_)
  have hP : va_P D classes [(h0, .inr (0, [.null, .int 0, .int 0, .int 0, .int 0])), (q1, .inl (K 0, 12, aI (fun _ => 0)))] H := hP
  have hD : va_D A [(h0, .inr (0, [.null, .int 0, .int 0, .int 0, .int 0])), (q1, .inl (K 0, 12, aI (fun _ => 0)))] := hD
  refine va_putF (D := D) (ci := 0) (v := .ref q1) (ty := (.array .int)) (C := R_Ck) (T := F_Ck) (N := 5) hx hb (wl_Ck hT) (fun _ h9 => h9) fy_Ck fy_Ck_ok fn_Ck hown hK hP hD hS 0 rfl rfl 0 (by decide) (k_34 hT) (fun _ h9 => h9) rfl hin rfl (by decide +kernel) rfl rfl (Nat.le_of_ble_eq_true rfl) d_Ck_init_9 (fun H locs hP hD hS => ?_)
  have hP : va_P D classes [(h0, .inr (0, [.ref q1, .int 0, .int 0, .int 0, .int 0])), (q1, .inl (K 0, 12, aI (fun _ => 0)))] H := hP
  have hD : va_D A [(h0, .inr (0, [.ref q1, .int 0, .int 0, .int 0, .int 0])), (q1, .inl (K 0, 12, aI (fun _ => 0)))] := hD
  refine lv_aload_n hx hb d_Ck_init_12 rfl (lv_at hl 0 rfl) ?_
  refine lv_iconst (v := (-1)) hx hb d_Ck_init_13 (by decide) ?_
  refine va_put (D := D) (ci := 0) (v := .int (-1)) (ty := .int) (C := R_Ck) (T := F_Ck) (N := 5) hx hb (wl_Ck hT) (fun _ h9 => h9) fy_Ck fy_Ck_ok fn_Ck hown hK hP hD hS 0 rfl rfl 1 (by decide) (k_36 hT) (fun _ h9 => h9) rfl (by decide +kernel) rfl rfl (Nat.le_of_ble_eq_true rfl) d_Ck_init_14 (fun H locs hP hD hS => ?_)
  have hP : va_P D classes [(h0, .inr (0, [.ref q1, .int (-1), .int 0, .int 0, .int 0])), (q1, .inl (K 0, 12, aI (fun _ => 0)))] H := hP
  have hD : va_D A [(h0, .inr (0, [.ref q1, .int (-1), .int 0, .int 0, .int 0])), (q1, .inl (K 0, 12, aI (fun _ => 0)))] := hD
  refine lv_aload_n hx hb d_Ck_init_17 rfl (lv_at hl 0 rfl) ?_
  refine lv_iconst (v := 0) hx hb d_Ck_init_18 (by decide) ?_
  refine va_put (D := D) (ci := 0) (v := .int 0) (ty := .int) (C := R_Ck) (T := F_Ck) (N := 5) hx hb (wl_Ck hT) (fun _ h9 => h9) fy_Ck fy_Ck_ok fn_Ck hown hK hP hD hS 0 rfl rfl 2 (by decide) (k_38 hT) (fun _ h9 => h9) rfl (by decide +kernel) rfl rfl (Nat.le_of_ble_eq_true rfl) d_Ck_init_19 (fun H locs hP hD hS => ?_)
  have hP : va_P D classes [(h0, .inr (0, [.ref q1, .int (-1), .int 0, .int 0, .int 0])), (q1, .inl (K 0, 12, aI (fun _ => 0)))] H := hP
  have hD : va_D A [(h0, .inr (0, [.ref q1, .int (-1), .int 0, .int 0, .int 0])), (q1, .inl (K 0, 12, aI (fun _ => 0)))] := hD
  refine lv_aload_n hx hb d_Ck_init_22 rfl (lv_at hl 0 rfl) ?_
  refine lv_iconst (v := 0) hx hb d_Ck_init_23 (by decide) ?_
  refine va_put (D := D) (ci := 0) (v := .int 0) (ty := .int) (C := R_Ck) (T := F_Ck) (N := 5) hx hb (wl_Ck hT) (fun _ h9 => h9) fy_Ck fy_Ck_ok fn_Ck hown hK hP hD hS 0 rfl rfl 3 (by decide) (k_39 hT) (fun _ h9 => h9) rfl (by decide +kernel) rfl rfl (Nat.le_of_ble_eq_true rfl) d_Ck_init_24 (fun H locs hP hD hS => ?_)
  have hP : va_P D classes [(h0, .inr (0, [.ref q1, .int (-1), .int 0, .int 0, .int 0])), (q1, .inl (K 0, 12, aI (fun _ => 0)))] H := hP
  have hD : va_D A [(h0, .inr (0, [.ref q1, .int (-1), .int 0, .int 0, .int 0])), (q1, .inl (K 0, 12, aI (fun _ => 0)))] := hD
  refine lv_aload_n hx hb d_Ck_init_27 rfl (lv_at hl 0 rfl) ?_
  refine lv_iconst (v := 0) hx hb d_Ck_init_28 (by decide) ?_
  refine va_put (D := D) (ci := 0) (v := .int 0) (ty := .boolean) (C := R_Ck) (T := F_Ck) (N := 5) hx hb (wl_Ck hT) (fun _ h9 => h9) fy_Ck fy_Ck_ok fn_Ck hown hK hP hD hS 0 rfl rfl 4 (by decide) (k_40 hT) (fun _ h9 => h9) rfl (by decide +kernel) rfl rfl (Nat.le_of_ble_eq_true rfl) d_Ck_init_29 (fun H locs hP hD hS => ?_)
  have hP : va_P D classes [(h0, .inr (0, [.ref q1, .int (-1), .int 0, .int 0, .int 0])), (q1, .inl (K 0, 12, aI (fun _ => 0)))] H := hP
  have hD : va_D A [(h0, .inr (0, [.ref q1, .int (-1), .int 0, .int 0, .int 0])), (q1, .inl (K 0, 12, aI (fun _ => 0)))] := hD
  exact W.vret hx hb hr (fun t ht hW => ⟨⟨q1, rfl, trivial, by rw [ht]; exact hP, hD⟩, hS.F ht⟩) hS.2.2 d_Ck_init_32

set_option maxHeartbeats 4000000 in
set_option maxRecDepth 100000 in
theorem M_Sc_init (l : Launch) (D : va_G) (K : Nat → ClassId) (A : Nat → Prop) (h0 : Nat) : Met l y_Sc_init [.code y_Sc_init b_Sc_init 1 none] ({ frames := 1, cells := 4, slots := 96, locals := 12 }) (va_Pc [.ref h0] (fun U => Fw A D classes (tyK K) [(h0, .inr (5, [.null, .null, .null, .null]))] U ∧ va_AO R_In U)) (va_Qv (fun _ : Nat × Nat × Nat × Nat => True) (fun u t => va_P D classes [(h0, .inr (5, [.ref u.1, .ref u.2.1, .ref u.2.2.1, .ref u.2.2.2])), (u.1, .inl (K 3, 24, aQ (fun _ => none))), (u.2.1, .inl (K 2, 24, aI (fun _ => 0))), (u.2.2.1, .inl (K 0, 24, aI (fun _ => 0))), (u.2.2.2, .inl (K 0, 24, aI (fun _ => 0)))] t.heap ∧ va_D A [(h0, .inr (5, [.ref u.1, .ref u.2.1, .ref u.2.2.1, .ref u.2.2.2])), (u.1, .inl (K 3, 24, aQ (fun _ => none))), (u.2.1, .inl (K 2, 24, aI (fun _ => 0))), (u.2.2.1, .inl (K 0, 24, aI (fun _ => 0))), (u.2.2.2, .inl (K 0, 24, aI (fun _ => 0)))]) A) 4 96 A := by
  refine Met.ofW (cc := b_Sc_init) (maxL := 1) (ret := none) (by decide) rfl ?_
  intro p e s m args below meth c s₁ B hml hv
  obtain ⟨rfl, ⟨hA, hP, hK, hD, hT⟩, hAO⟩ := hv
  have hx := B.exec
  have hb := B.bytes
  have hr := B.returns
  have hown : s.vm.findClass R_Sc = some m.cls := findClass_of_methodNamed B.named
  have hlocks := B.notSynchronized
  have hin : meth.name = "<init>" := (name_of_methodNamed B.named B.method).1
  have hS : va_S A s.heap s.heap [] := va_S.rf
  have hl := lv_entry ([.ref h0]) (n := 1) (Nat.le_of_ble_eq_true rfl)
  rw [lg_entry_eq]
  generalize (lg_sl ([.ref h0]) ++ List.replicate (1 - (lg_sl ([.ref h0])).length) Slot.unset).toArray = ls at hl ⊢
  have hl : lv_has ls 1 [(0, .ref h0)] := hl
  refine lv_aload_n hx hb d_Sc_init_0 rfl (lv_at hl 0 rfl) ?_
  refine W.objInit hx hb hown (k_124 hT) (k_24 hT) (k_25 hT) rfl (by rw [hml]; exact hl.1) rfl d_Sc_init_1 (Nat.le_of_ble_eq_true rfl) (Nat.le_of_ble_eq_true rfl) ?_
  refine W.eq (g2 := F0 m 4 ls []) rfl ?_
  refine lv_aload_n hx hb d_Sc_init_4 rfl (lv_at hl 0 rfl) ?_
  refine lv_bipush (v := 24) hx hb d_Sc_init_5 (by decide) ?_
  refine nwQ (C := R_In) (N' := 24) hx hb hown (k_125 hT) hAO hK hP hD hS hA 3 rfl (by decide) rfl (by decide) (Nat.le_of_ble_eq_true rfl) (Nat.le_of_ble_eq_true rfl) d_Sc_init_7 (fun q1 H hP hD hS => ?_)
  have hP : va_P D classes [(h0, .inr (5, [.null, .null, .null, .null])), (q1, .inl (K 3, 24, aQ (fun _ => none)))] H := hP
  have hD : va_D A [(h0, .inr (5, [.null, .null, .null, .null])), (q1, .inl (K 3, 24, aQ (fun _ => none)))] := hD
  refine va_putF (D := D) (ci := 5) (v := .ref q1) (ty := (.array (.object "PipeComputer$Instruction"))) (C := R_Sc) (T := F_Sc) (N := 4) hx hb (wl_Sc hT) (fun _ h9 => h9) fy_Sc fy_Sc_ok fn_Sc hown hK hP hD hS 0 rfl rfl 0 (by decide) (k_126 hT) (fun _ h9 => h9) rfl hin rfl (by decide +kernel) rfl rfl (Nat.le_of_ble_eq_true rfl) d_Sc_init_10 (fun H locs hP hD hS => ?_)
  have hP : va_P D classes [(h0, .inr (5, [.ref q1, .null, .null, .null])), (q1, .inl (K 3, 24, aQ (fun _ => none)))] H := hP
  have hD : va_D A [(h0, .inr (5, [.ref q1, .null, .null, .null])), (q1, .inl (K 3, 24, aQ (fun _ => none)))] := hD
  refine lv_aload_n hx hb d_Sc_init_13 rfl (lv_at hl 0 rfl) ?_
  refine lv_bipush (v := 24) hx hb d_Sc_init_14 (by decide) ?_
  refine nwA (atype := .boolean) (ty := .boolean) (N' := 24) (a0 := (24, aI (fun _ => 0))) hx hb (k_139 hT) rfl hK hP hD hS hA 2 rfl (fun _ => rfl) (by decide) rfl (by decide) (Nat.le_of_ble_eq_true rfl) (Nat.le_of_ble_eq_true rfl) d_Sc_init_16 (fun q2 H hP hD hS => ?_)
  have hP : va_P D classes [(h0, .inr (5, [.ref q1, .null, .null, .null])), (q1, .inl (K 3, 24, aQ (fun _ => none))), (q2, .inl (K 2, 24, aI (fun _ => 0)))] H := hP
  have hD : va_D A [(h0, .inr (5, [.ref q1, .null, .null, .null])), (q1, .inl (K 3, 24, aQ (fun _ => none))), (q2, .inl (K 2, 24, aI (fun _ => 0)))] := hD
  refine va_putF (D := D) (ci := 5) (v := .ref q2) (ty := (.array .boolean)) (C := R_Sc) (T := F_Sc) (N := 4) hx hb (wl_Sc hT) (fun _ h9 => h9) fy_Sc fy_Sc_ok fn_Sc hown hK hP hD hS 0 rfl rfl 1 (by decide) (k_127 hT) (fun _ h9 => h9) rfl hin rfl (by decide +kernel) rfl rfl (Nat.le_of_ble_eq_true rfl) d_Sc_init_18 (fun H locs hP hD hS => ?_)
  have hP : va_P D classes [(h0, .inr (5, [.ref q1, .ref q2, .null, .null])), (q1, .inl (K 3, 24, aQ (fun _ => none))), (q2, .inl (K 2, 24, aI (fun _ => 0)))] H := hP
  have hD : va_D A [(h0, .inr (5, [.ref q1, .ref q2, .null, .null])), (q1, .inl (K 3, 24, aQ (fun _ => none))), (q2, .inl (K 2, 24, aI (fun _ => 0)))] := hD
  refine lv_aload_n hx hb d_Sc_init_21 rfl (lv_at hl 0 rfl) ?_
  refine lv_bipush (v := 24) hx hb d_Sc_init_22 (by decide) ?_
  refine nwA (atype := .int) (ty := .int) (N' := 24) (a0 := (24, aI (fun _ => 0))) hx hb (k_53 hT) rfl hK hP hD hS hA 0 rfl (fun _ => rfl) (by decide) rfl (by decide) (Nat.le_of_ble_eq_true rfl) (Nat.le_of_ble_eq_true rfl) d_Sc_init_24 (fun q3 H hP hD hS => ?_)
  have hP : va_P D classes [(h0, .inr (5, [.ref q1, .ref q2, .null, .null])), (q1, .inl (K 3, 24, aQ (fun _ => none))), (q2, .inl (K 2, 24, aI (fun _ => 0))), (q3, .inl (K 0, 24, aI (fun _ => 0)))] H := hP
  have hD : va_D A [(h0, .inr (5, [.ref q1, .ref q2, .null, .null])), (q1, .inl (K 3, 24, aQ (fun _ => none))), (q2, .inl (K 2, 24, aI (fun _ => 0))), (q3, .inl (K 0, 24, aI (fun _ => 0)))] := hD
  refine va_putF (D := D) (ci := 5) (v := .ref q3) (ty := (.array .int)) (C := R_Sc) (T := F_Sc) (N := 4) hx hb (wl_Sc hT) (fun _ h9 => h9) fy_Sc fy_Sc_ok fn_Sc hown hK hP hD hS 0 rfl rfl 2 (by decide) (k_128 hT) (fun _ h9 => h9) rfl hin rfl (by decide +kernel) rfl rfl (Nat.le_of_ble_eq_true rfl) d_Sc_init_26 (fun H locs hP hD hS => ?_)
  have hP : va_P D classes [(h0, .inr (5, [.ref q1, .ref q2, .ref q3, .null])), (q1, .inl (K 3, 24, aQ (fun _ => none))), (q2, .inl (K 2, 24, aI (fun _ => 0))), (q3, .inl (K 0, 24, aI (fun _ => 0)))] H := hP
  have hD : va_D A [(h0, .inr (5, [.ref q1, .ref q2, .ref q3, .null])), (q1, .inl (K 3, 24, aQ (fun _ => none))), (q2, .inl (K 2, 24, aI (fun _ => 0))), (q3, .inl (K 0, 24, aI (fun _ => 0)))] := hD
  refine lv_aload_n hx hb d_Sc_init_29 rfl (lv_at hl 0 rfl) ?_
  refine lv_bipush (v := 24) hx hb d_Sc_init_30 (by decide) ?_
  refine nwA (atype := .int) (ty := .int) (N' := 24) (a0 := (24, aI (fun _ => 0))) hx hb (k_53 hT) rfl hK hP hD hS hA 0 rfl (fun _ => rfl) (by decide) rfl (by decide) (Nat.le_of_ble_eq_true rfl) (Nat.le_of_ble_eq_true rfl) d_Sc_init_32 (fun q4 H hP hD hS => ?_)
  have hP : va_P D classes [(h0, .inr (5, [.ref q1, .ref q2, .ref q3, .null])), (q1, .inl (K 3, 24, aQ (fun _ => none))), (q2, .inl (K 2, 24, aI (fun _ => 0))), (q3, .inl (K 0, 24, aI (fun _ => 0))), (q4, .inl (K 0, 24, aI (fun _ => 0)))] H := hP
  have hD : va_D A [(h0, .inr (5, [.ref q1, .ref q2, .ref q3, .null])), (q1, .inl (K 3, 24, aQ (fun _ => none))), (q2, .inl (K 2, 24, aI (fun _ => 0))), (q3, .inl (K 0, 24, aI (fun _ => 0))), (q4, .inl (K 0, 24, aI (fun _ => 0)))] := hD
  refine va_putF (D := D) (ci := 5) (v := .ref q4) (ty := (.array .int)) (C := R_Sc) (T := F_Sc) (N := 4) hx hb (wl_Sc hT) (fun _ h9 => h9) fy_Sc fy_Sc_ok fn_Sc hown hK hP hD hS 0 rfl rfl 3 (by decide) (k_129 hT) (fun _ h9 => h9) rfl hin rfl (by decide +kernel) rfl rfl (Nat.le_of_ble_eq_true rfl) d_Sc_init_34 (fun H locs hP hD hS => ?_)
  have hP : va_P D classes [(h0, .inr (5, [.ref q1, .ref q2, .ref q3, .ref q4])), (q1, .inl (K 3, 24, aQ (fun _ => none))), (q2, .inl (K 2, 24, aI (fun _ => 0))), (q3, .inl (K 0, 24, aI (fun _ => 0))), (q4, .inl (K 0, 24, aI (fun _ => 0)))] H := hP
  have hD : va_D A [(h0, .inr (5, [.ref q1, .ref q2, .ref q3, .ref q4])), (q1, .inl (K 3, 24, aQ (fun _ => none))), (q2, .inl (K 2, 24, aI (fun _ => 0))), (q3, .inl (K 0, 24, aI (fun _ => 0))), (q4, .inl (K 0, 24, aI (fun _ => 0)))] := hD
  exact W.vret hx hb hr (fun t ht hW => ⟨⟨(q1, q2, q3, q4), rfl, trivial, by rw [ht]; exact hP, hD⟩, hS.F ht⟩) hS.2.2 d_Sc_init_37

set_option maxHeartbeats 4000000 in
set_option maxRecDepth 100000 in
theorem M_Cc_init (l : Launch) (D : va_G) (K : Nat → ClassId) (A : Nat → Prop) (h0 : Nat) : Met l y_Cc_init [.code y_Cc_init b_Cc_init 1 none] ({ frames := 2, cells := 2, slots := 8, locals := 43 }) (va_Pc [.ref h0] (fun U => Fw A D classes (tyK K) [(h0, .inr (1, [.int 0, .null]))] U ∧ va_AO R_In U)) (va_Qv (fun _ : Nat => True) (fun u t => va_P D classes [(h0, .inr (1, [.int 0, .ref u])), (u, .inl (K 0, 2, aI (fI (fun _ => 0) 2 (-1))))] t.heap ∧ va_D A [(h0, .inr (1, [.int 0, .ref u])), (u, .inl (K 0, 2, aI (fI (fun _ => 0) 2 (-1))))]) A) 2 8 A := by
  refine Met.ofW (cc := b_Cc_init) (maxL := 1) (ret := none) (by decide) rfl ?_
  intro p e s m args below meth c s₁ B hml hv
  obtain ⟨rfl, ⟨hA, hP, hK, hD, hT⟩, hAO⟩ := hv
  have hx := B.exec
  have hb := B.bytes
  have hr := B.returns
  have hown : s.vm.findClass R_Cc = some m.cls := findClass_of_methodNamed B.named
  have hlocks := B.notSynchronized
  have hin : meth.name = "<init>" := (name_of_methodNamed B.named B.method).1
  have hS : va_S A s.heap s.heap [] := va_S.rf
  have hl := lv_entry ([.ref h0]) (n := 1) (Nat.le_of_ble_eq_true rfl)
  rw [lg_entry_eq]
  generalize (lg_sl ([.ref h0]) ++ List.replicate (1 - (lg_sl ([.ref h0])).length) Slot.unset).toArray = ls at hl ⊢
  have hl : lv_has ls 1 [(0, .ref h0)] := hl
  refine lv_aload_n hx hb d_Cc_init_0 rfl (lv_at hl 0 rfl) ?_
  refine W.objInit hx hb hown (k_59 hT) (k_24 hT) (k_25 hT) rfl (by rw [hml]; exact hl.1) rfl d_Cc_init_1 (Nat.le_of_ble_eq_true rfl) (Nat.le_of_ble_eq_true rfl) ?_
  refine W.eq (g2 := F0 m 4 ls []) rfl ?_
  refine lv_aload_n hx hb d_Cc_init_4 rfl (lv_at hl 0 rfl) ?_
  refine lv_iconst (v := 0) hx hb d_Cc_init_5 (by decide) ?_
  refine va_put (D := D) (ci := 1) (v := .int 0) (ty := .int) (C := R_Cc) (T := F_Cc) (N := 2) hx hb (wl_Cc hT) (fun _ h9 => h9) fy_Cc fy_Cc_ok fn_Cc hown hK hP hD hS 0 rfl rfl 0 (by decide) (k_67 hT) (fun _ h9 => h9) rfl (by decide +kernel) rfl rfl (Nat.le_of_ble_eq_true rfl) d_Cc_init_6 (fun H locs hP hD hS => ?_)
  have hP : va_P D classes [(h0, .inr (1, [.int 0, .null]))] H := hP
  have hD : va_D A [(h0, .inr (1, [.int 0, .null]))] := hD
  refine lv_aload_n hx hb d_Cc_init_9 rfl (lv_at hl 0 rfl) ?_
  refine lv_iconst (v := 2) hx hb d_Cc_init_10 (by decide) ?_
  refine nwA (atype := .int) (ty := .int) (N' := 2) (a0 := (2, aI (fun _ => 0))) hx hb (k_53 hT) rfl hK hP hD hS hA 0 rfl (fun _ => rfl) (by decide) rfl (by decide) (Nat.le_of_ble_eq_true rfl) (Nat.le_of_ble_eq_true rfl) d_Cc_init_11 (fun q1 H hP hD hS => ?_)
  have hP : va_P D classes [(h0, .inr (1, [.int 0, .null])), (q1, .inl (K 0, 2, aI (fun _ => 0)))] H := hP
  have hD : va_D A [(h0, .inr (1, [.int 0, .null])), (q1, .inl (K 0, 2, aI (fun _ => 0)))] := hD
  refine va_putF (D := D) (ci := 1) (v := .ref q1) (ty := (.array .int)) (C := R_Cc) (T := F_Cc) (N := 2) hx hb (wl_Cc hT) (fun _ h9 => h9) fy_Cc fy_Cc_ok fn_Cc hown hK hP hD hS 0 rfl rfl 1 (by decide) (k_69 hT) (fun _ h9 => h9) rfl hin rfl (by decide +kernel) rfl rfl (Nat.le_of_ble_eq_true rfl) d_Cc_init_13 (fun H locs hP hD hS => ?_)
  have hP : va_P D classes [(h0, .inr (1, [.int 0, .ref q1])), (q1, .inl (K 0, 2, aI (fun _ => 0)))] H := hP
  have hD : va_D A [(h0, .inr (1, [.int 0, .ref q1])), (q1, .inl (K 0, 2, aI (fun _ => 0)))] := hD
  refine lv_aload_n hx hb d_Cc_init_16 rfl (lv_at hl 0 rfl) ?_
  refine cx_V (A0 := A) (n := 0) (C := R_Cc) (As := []) (rest := []) ⟨hx, hb, hml, hown, fun _ h9 => nomatch h9⟩ (S_Cc_empty l D K A h0 q1 0 (fun _ => 0)) (k_60 hT) (k_61 hT) (k_62 hT) (k_63 hT) (k_3 hT) rfl (by decide +kernel) (va_recv hK hP (ci := 1) (q0 := 0) rfl rfl) (fun U hU hW => ⟨fun q hq => hA q (Nat.le_trans hS.1 (by rw [← hU]; exact hq)), by rw [hU]; exact hP, va_K.moved hW.alike hK, hD, hT.warm hW⟩) ⟨by decide, by decide⟩ ⟨by decide, by decide⟩ hl.1 (Nat.le_of_ble_eq_true rfl) d_Cc_init_17 (fun _ h9 => h9) hS (fun _ _ _ _ _ _ _ h9 => h9.elim) (fun v9 t H locs ht9 hRt hz hk hS => ?_)
  obtain ⟨rfl, hP⟩ := hRt
  rw [ht9] at hP
  have hP : va_P D classes [(h0, .inr (1, [.int 0, .ref q1])), (q1, .inl (K 0, 2, aI (fI (fun _ => 0) 2 (-1))))] H := hP
  have hD : va_D A [(h0, .inr (1, [.int 0, .ref q1])), (q1, .inl (K 0, 2, aI (fI (fun _ => 0) 2 (-1))))] := va_D.re hD (fun k => by match k with | 0 => rfl | 1 => rfl | _ + 2 => rfl)
  refine W.eq (g2 := F0 m 20 ls []) rfl ?_
  refine W.widen (k := 2) (n := 8) (by omega) (by omega) ?_
  exact W.vret hx hb hr (fun t ht hW => ⟨⟨q1, rfl, trivial, by rw [ht]; exact hP, hD⟩, hS.F ht⟩) hS.2.2 d_Cc_init_20

set_option maxHeartbeats 4000000 in
set_option maxRecDepth 100000 in
theorem M_Dc_init (l : Launch) (D : va_G) (K : Nat → ClassId) (A : Nat → Prop) (h0 : Nat) : Met l y_Dc_init [.code y_Dc_init b_Dc_init 1 none] ({ frames := 2, cells := 3, slots := 14, locals := 43 }) (va_Pc [.ref h0] (fun U => Fw A D classes (tyK K) [(h0, .inr (2, [.int 0, .null, .null, .int 0]))] U ∧ va_AO R_In U)) (va_Qv (fun _ : Nat × Nat => True) (fun u t => va_P D classes [(h0, .inr (2, [.int 0, .ref u.1, .ref u.2, .int 0])), (u.1, .inl (K 0, 4, aI (fI (fun _ => 0) 4 (-1)))), (u.2, .inl (K 0, 4, aI (fI (fun _ => 0) 4 0)))] t.heap ∧ va_D A [(h0, .inr (2, [.int 0, .ref u.1, .ref u.2, .int 0])), (u.1, .inl (K 0, 4, aI (fI (fun _ => 0) 4 (-1)))), (u.2, .inl (K 0, 4, aI (fI (fun _ => 0) 4 0)))]) A) 3 14 A := by
  refine Met.ofW (cc := b_Dc_init) (maxL := 1) (ret := none) (by decide) rfl ?_
  intro p e s m args below meth c s₁ B hml hv
  obtain ⟨rfl, ⟨hA, hP, hK, hD, hT⟩, hAO⟩ := hv
  have hx := B.exec
  have hb := B.bytes
  have hr := B.returns
  have hown : s.vm.findClass R_Dc = some m.cls := findClass_of_methodNamed B.named
  have hlocks := B.notSynchronized
  have hin : meth.name = "<init>" := (name_of_methodNamed B.named B.method).1
  have hS : va_S A s.heap s.heap [] := va_S.rf
  have hl := lv_entry ([.ref h0]) (n := 1) (Nat.le_of_ble_eq_true rfl)
  rw [lg_entry_eq]
  generalize (lg_sl ([.ref h0]) ++ List.replicate (1 - (lg_sl ([.ref h0])).length) Slot.unset).toArray = ls at hl ⊢
  have hl : lv_has ls 1 [(0, .ref h0)] := hl
  refine lv_aload_n hx hb d_Dc_init_0 rfl (lv_at hl 0 rfl) ?_
  refine W.objInit hx hb hown (k_80 hT) (k_24 hT) (k_25 hT) rfl (by rw [hml]; exact hl.1) rfl d_Dc_init_1 (Nat.le_of_ble_eq_true rfl) (Nat.le_of_ble_eq_true rfl) ?_
  refine W.eq (g2 := F0 m 4 ls []) rfl ?_
  refine lv_aload_n hx hb d_Dc_init_4 rfl (lv_at hl 0 rfl) ?_
  refine lv_iconst (v := 0) hx hb d_Dc_init_5 (by decide) ?_
  refine va_put (D := D) (ci := 2) (v := .int 0) (ty := .int) (C := R_Dc) (T := F_Dc) (N := 4) hx hb (wl_Dc hT) (fun _ h9 => h9) fy_Dc fy_Dc_ok fn_Dc hown hK hP hD hS 0 rfl rfl 0 (by decide) (k_86 hT) (fun _ h9 => h9) rfl (by decide +kernel) rfl rfl (Nat.le_of_ble_eq_true rfl) d_Dc_init_6 (fun H locs hP hD hS => ?_)
  have hP : va_P D classes [(h0, .inr (2, [.int 0, .null, .null, .int 0]))] H := hP
  have hD : va_D A [(h0, .inr (2, [.int 0, .null, .null, .int 0]))] := hD
  refine lv_aload_n hx hb d_Dc_init_9 rfl (lv_at hl 0 rfl) ?_
  refine lv_iconst (v := 4) hx hb d_Dc_init_10 (by decide) ?_
  refine nwA (atype := .int) (ty := .int) (N' := 4) (a0 := (4, aI (fun _ => 0))) hx hb (k_53 hT) rfl hK hP hD hS hA 0 rfl (fun _ => rfl) (by decide) rfl (by decide) (Nat.le_of_ble_eq_true rfl) (Nat.le_of_ble_eq_true rfl) d_Dc_init_11 (fun q1 H hP hD hS => ?_)
  have hP : va_P D classes [(h0, .inr (2, [.int 0, .null, .null, .int 0])), (q1, .inl (K 0, 4, aI (fun _ => 0)))] H := hP
  have hD : va_D A [(h0, .inr (2, [.int 0, .null, .null, .int 0])), (q1, .inl (K 0, 4, aI (fun _ => 0)))] := hD
  refine va_putF (D := D) (ci := 2) (v := .ref q1) (ty := (.array .int)) (C := R_Dc) (T := F_Dc) (N := 4) hx hb (wl_Dc hT) (fun _ h9 => h9) fy_Dc fy_Dc_ok fn_Dc hown hK hP hD hS 0 rfl rfl 1 (by decide) (k_88 hT) (fun _ h9 => h9) rfl hin rfl (by decide +kernel) rfl rfl (Nat.le_of_ble_eq_true rfl) d_Dc_init_13 (fun H locs hP hD hS => ?_)
  have hP : va_P D classes [(h0, .inr (2, [.int 0, .ref q1, .null, .int 0])), (q1, .inl (K 0, 4, aI (fun _ => 0)))] H := hP
  have hD : va_D A [(h0, .inr (2, [.int 0, .ref q1, .null, .int 0])), (q1, .inl (K 0, 4, aI (fun _ => 0)))] := hD
  refine lv_aload_n hx hb d_Dc_init_16 rfl (lv_at hl 0 rfl) ?_
  refine lv_iconst (v := 4) hx hb d_Dc_init_17 (by decide) ?_
  refine nwA (atype := .int) (ty := .int) (N' := 4) (a0 := (4, aI (fun _ => 0))) hx hb (k_53 hT) rfl hK hP hD hS hA 0 rfl (fun _ => rfl) (by decide) rfl (by decide) (Nat.le_of_ble_eq_true rfl) (Nat.le_of_ble_eq_true rfl) d_Dc_init_18 (fun q2 H hP hD hS => ?_)
  have hP : va_P D classes [(h0, .inr (2, [.int 0, .ref q1, .null, .int 0])), (q1, .inl (K 0, 4, aI (fun _ => 0))), (q2, .inl (K 0, 4, aI (fun _ => 0)))] H := hP
  have hD : va_D A [(h0, .inr (2, [.int 0, .ref q1, .null, .int 0])), (q1, .inl (K 0, 4, aI (fun _ => 0))), (q2, .inl (K 0, 4, aI (fun _ => 0)))] := hD
  refine va_putF (D := D) (ci := 2) (v := .ref q2) (ty := (.array .int)) (C := R_Dc) (T := F_Dc) (N := 4) hx hb (wl_Dc hT) (fun _ h9 => h9) fy_Dc fy_Dc_ok fn_Dc hown hK hP hD hS 0 rfl rfl 2 (by decide) (k_89 hT) (fun _ h9 => h9) rfl hin rfl (by decide +kernel) rfl rfl (Nat.le_of_ble_eq_true rfl) d_Dc_init_20 (fun H locs hP hD hS => ?_)
  have hP : va_P D classes [(h0, .inr (2, [.int 0, .ref q1, .ref q2, .int 0])), (q1, .inl (K 0, 4, aI (fun _ => 0))), (q2, .inl (K 0, 4, aI (fun _ => 0)))] H := hP
  have hD : va_D A [(h0, .inr (2, [.int 0, .ref q1, .ref q2, .int 0])), (q1, .inl (K 0, 4, aI (fun _ => 0))), (q2, .inl (K 0, 4, aI (fun _ => 0)))] := hD
  refine lv_aload_n hx hb d_Dc_init_23 rfl (lv_at hl 0 rfl) ?_
  refine lv_iconst (v := 0) hx hb d_Dc_init_24 (by decide) ?_
  refine va_put (D := D) (ci := 2) (v := .int 0) (ty := .int) (C := R_Dc) (T := F_Dc) (N := 4) hx hb (wl_Dc hT) (fun _ h9 => h9) fy_Dc fy_Dc_ok fn_Dc hown hK hP hD hS 0 rfl rfl 3 (by decide) (k_90 hT) (fun _ h9 => h9) rfl (by decide +kernel) rfl rfl (Nat.le_of_ble_eq_true rfl) d_Dc_init_25 (fun H locs hP hD hS => ?_)
  have hP : va_P D classes [(h0, .inr (2, [.int 0, .ref q1, .ref q2, .int 0])), (q1, .inl (K 0, 4, aI (fun _ => 0))), (q2, .inl (K 0, 4, aI (fun _ => 0)))] H := hP
  have hD : va_D A [(h0, .inr (2, [.int 0, .ref q1, .ref q2, .int 0])), (q1, .inl (K 0, 4, aI (fun _ => 0))), (q2, .inl (K 0, 4, aI (fun _ => 0)))] := hD
  refine lv_aload_n hx hb d_Dc_init_28 rfl (lv_at hl 0 rfl) ?_
  refine cx_V (A0 := A) (n := 0) (C := R_Dc) (As := []) (rest := []) ⟨hx, hb, hml, hown, fun _ h9 => nomatch h9⟩ (S_Dc_empty l D K A h0 q1 q2 0 0 (fun _ => 0) (fun _ => 0)) (k_81 hT) (k_82 hT) (k_83 hT) (k_84 hT) (k_5 hT) rfl (by decide +kernel) (va_recv hK hP (ci := 2) (q0 := 0) rfl rfl) (fun U hU hW => ⟨fun q hq => hA q (Nat.le_trans hS.1 (by rw [← hU]; exact hq)), by rw [hU]; exact hP, va_K.moved hW.alike hK, hD, hT.warm hW⟩) ⟨by decide, by decide⟩ ⟨by decide, by decide⟩ hl.1 (Nat.le_of_ble_eq_true rfl) d_Dc_init_29 (fun _ h9 => h9) hS (fun _ _ _ _ _ _ _ h9 => h9.elim) (fun v9 t H locs ht9 hRt hz hk hS => ?_)
  obtain ⟨rfl, hP⟩ := hRt
  rw [ht9] at hP
  have hP : va_P D classes [(h0, .inr (2, [.int 0, .ref q1, .ref q2, .int 0])), (q1, .inl (K 0, 4, aI (fI (fun _ => 0) 4 (-1)))), (q2, .inl (K 0, 4, aI (fI (fun _ => 0) 4 0)))] H := hP
  have hD : va_D A [(h0, .inr (2, [.int 0, .ref q1, .ref q2, .int 0])), (q1, .inl (K 0, 4, aI (fI (fun _ => 0) 4 (-1)))), (q2, .inl (K 0, 4, aI (fI (fun _ => 0) 4 0)))] := va_D.re hD (fun k => by match k with | 0 => rfl | 1 => rfl | 2 => rfl | _ + 3 => rfl)
  refine W.eq (g2 := F0 m 32 ls []) rfl ?_
  refine W.widen (k := 3) (n := 14) (by omega) (by omega) ?_
  exact W.vret hx hb hr (fun t ht hW => ⟨⟨(q1, q2), rfl, trivial, by rw [ht]; exact hP, hD⟩, hS.F ht⟩) hS.2.2 d_Dc_init_32

set_option maxHeartbeats 4000000 in
set_option maxRecDepth 100000 in
theorem M_Pr_init (l : Launch) (D : va_G) (K : Nat → ClassId) (A : Nat → Prop) (h0 : Nat) : Met l y_Pr_init [.code y_Pr_init b_Pr_init 1 none] ({ frames := 2, cells := 2, slots := 14, locals := 43 }) (va_Pc [.ref h0] (fun U => Fw A D classes (tyK K) [(h0, .inr (4, [.int 0, .null]))] U ∧ va_AO R_In U)) (va_Qv (fun _ : Nat => True) (fun u t => va_P D classes [(h0, .inr (4, [.int 0, .ref u])), (u, .inl (K 0, 8, aI (fI (fun _ => 0) 8 1)))] t.heap ∧ va_D A [(h0, .inr (4, [.int 0, .ref u])), (u, .inl (K 0, 8, aI (fI (fun _ => 0) 8 1)))]) A) 2 14 A := by
  refine Met.ofW (cc := b_Pr_init) (maxL := 1) (ret := none) (by decide) rfl ?_
  intro p e s m args below meth c s₁ B hml hv
  obtain ⟨rfl, ⟨hA, hP, hK, hD, hT⟩, hAO⟩ := hv
  have hx := B.exec
  have hb := B.bytes
  have hr := B.returns
  have hown : s.vm.findClass R_Pr = some m.cls := findClass_of_methodNamed B.named
  have hlocks := B.notSynchronized
  have hin : meth.name = "<init>" := (name_of_methodNamed B.named B.method).1
  have hS : va_S A s.heap s.heap [] := va_S.rf
  have hl := lv_entry ([.ref h0]) (n := 1) (Nat.le_of_ble_eq_true rfl)
  rw [lg_entry_eq]
  generalize (lg_sl ([.ref h0]) ++ List.replicate (1 - (lg_sl ([.ref h0])).length) Slot.unset).toArray = ls at hl ⊢
  have hl : lv_has ls 1 [(0, .ref h0)] := hl
  refine lv_aload_n hx hb d_Pr_init_0 rfl (lv_at hl 0 rfl) ?_
  refine W.objInit hx hb hown (k_105 hT) (k_24 hT) (k_25 hT) rfl (by rw [hml]; exact hl.1) rfl d_Pr_init_1 (Nat.le_of_ble_eq_true rfl) (Nat.le_of_ble_eq_true rfl) ?_
  refine W.eq (g2 := F0 m 4 ls []) rfl ?_
  refine lv_aload_n hx hb d_Pr_init_4 rfl (lv_at hl 0 rfl) ?_
  refine lv_iconst (v := 0) hx hb d_Pr_init_5 (by decide) ?_
  refine va_put (D := D) (ci := 4) (v := .int 0) (ty := .int) (C := R_Pr) (T := F_Pr) (N := 2) hx hb (wl_Pr hT) (fun _ h9 => h9) fy_Pr fy_Pr_ok fn_Pr hown hK hP hD hS 0 rfl rfl 0 (by decide) (k_111 hT) (fun _ h9 => h9) rfl (by decide +kernel) rfl rfl (Nat.le_of_ble_eq_true rfl) d_Pr_init_6 (fun H locs hP hD hS => ?_)
  have hP : va_P D classes [(h0, .inr (4, [.int 0, .null]))] H := hP
  have hD : va_D A [(h0, .inr (4, [.int 0, .null]))] := hD
  refine lv_aload_n hx hb d_Pr_init_9 rfl (lv_at hl 0 rfl) ?_
  refine lv_bipush (v := 8) hx hb d_Pr_init_10 (by decide) ?_
  refine nwA (atype := .int) (ty := .int) (N' := 8) (a0 := (8, aI (fun _ => 0))) hx hb (k_53 hT) rfl hK hP hD hS hA 0 rfl (fun _ => rfl) (by decide) rfl (by decide) (Nat.le_of_ble_eq_true rfl) (Nat.le_of_ble_eq_true rfl) d_Pr_init_12 (fun q1 H hP hD hS => ?_)
  have hP : va_P D classes [(h0, .inr (4, [.int 0, .null])), (q1, .inl (K 0, 8, aI (fun _ => 0)))] H := hP
  have hD : va_D A [(h0, .inr (4, [.int 0, .null])), (q1, .inl (K 0, 8, aI (fun _ => 0)))] := hD
  refine va_putF (D := D) (ci := 4) (v := .ref q1) (ty := (.array .int)) (C := R_Pr) (T := F_Pr) (N := 2) hx hb (wl_Pr hT) (fun _ h9 => h9) fy_Pr fy_Pr_ok fn_Pr hown hK hP hD hS 0 rfl rfl 1 (by decide) (k_113 hT) (fun _ h9 => h9) rfl hin rfl (by decide +kernel) rfl rfl (Nat.le_of_ble_eq_true rfl) d_Pr_init_14 (fun H locs hP hD hS => ?_)
  have hP : va_P D classes [(h0, .inr (4, [.int 0, .ref q1])), (q1, .inl (K 0, 8, aI (fun _ => 0)))] H := hP
  have hD : va_D A [(h0, .inr (4, [.int 0, .ref q1])), (q1, .inl (K 0, 8, aI (fun _ => 0)))] := hD
  refine lv_aload_n hx hb d_Pr_init_17 rfl (lv_at hl 0 rfl) ?_
  refine cx_V (A0 := A) (n := 0) (C := R_Pr) (As := []) (rest := []) ⟨hx, hb, hml, hown, fun _ h9 => nomatch h9⟩ (S_Pr_reset l D K A h0 q1 0 (fun _ => 0)) (k_106 hT) (k_107 hT) (k_108 hT) (k_109 hT) (k_6 hT) rfl (by decide +kernel) (va_recv hK hP (ci := 4) (q0 := 0) rfl rfl) (fun U hU hW => ⟨fun q hq => hA q (Nat.le_trans hS.1 (by rw [← hU]; exact hq)), by rw [hU]; exact hP, va_K.moved hW.alike hK, hD, hT.warm hW⟩) ⟨by decide, by decide⟩ ⟨by decide, by decide⟩ hl.1 (Nat.le_of_ble_eq_true rfl) d_Pr_init_18 (fun _ h9 => h9) hS (fun _ _ _ _ _ _ _ h9 => h9.elim) (fun v9 t H locs ht9 hRt hz hk hS => ?_)
  obtain ⟨rfl, hP⟩ := hRt
  rw [ht9] at hP
  have hP : va_P D classes [(h0, .inr (4, [.int 0, .ref q1])), (q1, .inl (K 0, 8, aI (fI (fun _ => 0) 8 1)))] H := hP
  have hD : va_D A [(h0, .inr (4, [.int 0, .ref q1])), (q1, .inl (K 0, 8, aI (fI (fun _ => 0) 8 1)))] := va_D.re hD (fun k => by match k with | 0 => rfl | 1 => rfl | _ + 2 => rfl)
  refine W.eq (g2 := F0 m 21 ls []) rfl ?_
  refine W.widen (k := 2) (n := 14) (by omega) (by omega) ?_
  exact W.vret hx hb hr (fun t ht hW => ⟨⟨q1, rfl, trivial, by rw [ht]; exact hP, hD⟩, hS.F ht⟩) hS.2.2 d_Pr_init_21

