/-! THE LAW'S WRAPPERS -/
section Wrap
def Aw (G : GT) (o : Nat) : Nat → Prop := fun q => gA G q ∨ q = o
theorem app_P {D : va_G} {cl : List vw_C} {a b : va_W} {H : Heap} (h1 : va_P D cl a H) (h2 : va_P D cl b H) : va_P D cl (a ++ b) H := by
  intro k q hq
  by_cases hk : k < a.length
  · rw [List.getElem?_append_left hk] at hq; exact h1 k q hq
  · rw [List.getElem?_append_right (Nat.le_of_not_lt hk)] at hq; exact h2 _ q hq
theorem app_l {D : va_G} {cl : List vw_C} {a b : va_W} {H : Heap} (h : va_P D cl (a ++ b) H) : va_P D cl a H := by
  intro k q hq
  refine h k q ?_
  rw [List.getElem?_append_left (List.getElem?_eq_some_iff.mp hq).1]; exact hq
theorem app_r {D : va_G} {cl : List vw_C} {a b : va_W} {H : Heap} (h : va_P D cl (a ++ b) H) : va_P D cl b H := by
  intro k q hq
  refine h (a.length + k) q ?_
  rw [List.getElem?_append_right (Nat.le_add_right _ _), Nat.add_sub_cancel_left]; exact hq
theorem cw_len (G : GT) (σ : CS) : (cw G σ).length = 43 := by
  show (cw1 G σ ++ cwi G σ).length = 43
  rw [List.length_append]
  simp [cwi]
theorem out_at {G : GT} {u : CS} {X : Nat × va_E} : (cw G u ++ [X])[43]? = some X := by
  rw [List.getElem?_append_right (by rw [cw_len]; exact Nat.le_refl _), cw_len]
  rfl
theorem out_set {G : GT} {u : CS} {X Y : Nat × va_E} : List.set (cw G u ++ [X]) 43 Y = cw G u ++ [Y] := by
  rw [List.set_append_right 43 _ (by rw [cw_len]; exact Nat.le_refl _), cw_len]
  rfl
theorem out_D {l : Launch} {G : GT} (g : GOK l G) {o : Nat} (ho : ¬ gA G o) (u : CS) (E : va_E) : va_D (Aw G o) (cw G u ++ [(o, E)]) := by
  obtain ⟨d1, d2⟩ := g.d (σ := u)
  have dec : ∀ {i : Nat} {p : Nat × va_E}, (cw G u ++ [(o, E)])[i]? = some p → (i < 43 ∧ (cw G u)[i]? = some p) ∨ (i = 43 ∧ p = (o, E)) := by
    intro i p hp
    by_cases hi : i < (cw G u).length
    · rw [List.getElem?_append_left hi] at hp
      exact Or.inl ⟨by rw [cw_len] at hi; exact hi, hp⟩
    · rw [List.getElem?_append_right (Nat.le_of_not_lt hi), cw_len] at hp
      rw [cw_len] at hi
      have hj : i - 43 = 0 := by
        have := (List.getElem?_eq_some_iff.mp hp).1
        simp at this
        omega
      rw [hj] at hp
      cases hp
      exact Or.inr ⟨by omega, rfl⟩
  refine ⟨fun i j p q hp hq e => ?_, fun k q hq => ?_⟩
  · rcases dec hp with ⟨a1, a2⟩ | ⟨a1, a2⟩
    · rcases dec hq with ⟨b1, b2⟩ | ⟨b1, b2⟩
      · exact d1 i j p q a2 b2 e
      · have e' : p.1 = o := by rw [e, b2]
        exact absurd (by rw [← e']; exact d2 i p a2) ho
    · rcases dec hq with ⟨b1, b2⟩ | ⟨b1, b2⟩
      · have e' : q.1 = o := by rw [← e, a2]
        exact absurd (by rw [← e']; exact d2 j q b2) ho
      · omega
  · rcases dec hq with ⟨b1, b2⟩ | ⟨b1, b2⟩
    · exact Or.inl (d2 k q b2)
    · rw [b2]; exact Or.inr rfl
def LwO (G : GT) (σ : CS) (X : Nat × va_E) (U : State) : Prop := Cw G σ U ∧ va_P (gD G) classes [X] U.heap
abbrev oL (G : GT) (o : Nat) (f : Nat → Int64) : Nat × va_E := (o, .inl (gk G 4, 1, .inr (.inl f)))
abbrev oD (G : GT) (o : Nat) (f : Nat → UInt64) : Nat × va_E := (o, .inl (gk G 1, 1, aD f))
def RyL (G : GT) (o : Nat) (P : Int32 → CS → (Nat → Int64) → Prop) : Option Value → State → Prop := fun v t => ∃ (r : Int32) (u : CS) (f : Nat → Int64), v = some (.int r) ∧ P r u f ∧ va_P (gD G) classes (cw G u) t.heap ∧ va_P (gD G) classes [oL G o f] t.heap
def RyD (G : GT) (o : Nat) (P : Int32 → CS → (Nat → UInt64) → Prop) : Option Value → State → Prop := fun v t => ∃ (r : Int32) (u : CS) (f : Nat → UInt64), v = some (.int r) ∧ P r u f ∧ va_P (gD G) classes (cw G u) t.heap ∧ va_P (gD G) classes [oD G o f] t.heap
theorem keepX {D : va_G} {cl : List vw_C} {A : Nat → Prop} {X : Nat × va_E} {H H1 : Heap} (h : va_P D cl [X] H) (ho : ¬ A X.1) (hk : ∀ q : Nat, q < H.size → ¬ A q → H1[q]? = H[q]?) : va_P D cl [X] H1 := h.kept (fun k q hq => by
  have : q = X := by
    cases k with
    | zero => cases hq; rfl
    | succ k => cases hq
  rw [this]
  exact hk X.1 (this ▸ (h k q hq).lt) ho)
theorem tab1 {t : List ExceptionTableEntry} {a b h k : Nat} (e : t.map (fun h => (h.startPc, h.endPc, h.handlerPc, h.catchType)) = [(a, b, h, k)]) : ∃ x, t = [x] ∧ x.startPc = a ∧ x.endPc = b ∧ x.handlerPc = h ∧ x.catchType = k := by
  match t, e with
  | [x], e =>
    simp only [List.map_cons, List.map_nil, List.cons.injEq, Prod.mk.injEq, and_true] at e
    exact ⟨x, rfl, e.1, e.2.1, e.2.2.1, e.2.2.2⟩
theorem tab4 {t : List ExceptionTableEntry} {a b h k a' b' h' k' a'' b'' h'' k'' a3 b3 h3 k3 : Nat} (e : t.map (fun h => (h.startPc, h.endPc, h.handlerPc, h.catchType)) = [(a, b, h, k), (a', b', h', k'), (a'', b'', h'', k''), (a3, b3, h3, k3)]) : ∃ x y z w, t = [x, y, z, w] ∧ x.startPc = a ∧ x.endPc = b ∧ x.handlerPc = h ∧ x.catchType = k ∧ y.startPc = a' ∧ y.endPc = b' ∧ y.handlerPc = h' ∧ y.catchType = k' ∧ z.startPc = a'' ∧ z.endPc = b'' ∧ z.handlerPc = h'' ∧ z.catchType = k'' ∧ w.startPc = a3 ∧ w.endPc = b3 ∧ w.handlerPc = h3 ∧ w.catchType = k3 := by
  match t, e with
  | [x, y, z, w], e =>
    simp only [List.map_cons, List.map_nil, List.cons.injEq, Prod.mk.injEq, and_true] at e
    obtain ⟨⟨x1, x2, x3, x4⟩, ⟨y1, y2, y3, y4⟩, ⟨z1, z2, z3, z4⟩, w1, w2, w3, w4⟩ := e
    exact ⟨x, y, z, w, rfl, x1, x2, x3, x4, y1, y2, y3, y4, z1, z2, z3, z4, w1, w2, w3, w4⟩
theorem cov {x : ExceptionTableEntry} {a b pc : Nat} (h1 : x.startPc = a) (h2 : x.endPc = b) (h3 : a ≤ pc) (h4 : pc < b) : covers x pc = true := by
  unfold covers
  rw [h1, h2, decide_eq_true h3, decide_eq_true h4]
  rfl
end Wrap
section YEnds
variable {p : Program} {l : Launch} {e : Env} {R : Room} {s : State} {m : MethodId} {args : Array Value} {below : List Frame} {meth : Method} {c : Code} {H : Heap} {locs : List Loc} {cells slots : Nat} {cc : ByteArray} {pc : Nat} {ls : Array Slot} {A : Nat → Prop} {Rt : Option Value → State → Prop}
theorem yend {r : Int32} (hc : cells ≤ 1) (hs : slots ≤ 6) (hx : p.tables.exec = Jvm.exec) (hb : c.code = cc) (hr : meth.sig.returnType = some .int) (hlocks : meth.locks = false) (hS : va_S A s.heap H locs) (d : decode cc pc = .ok (.ireturn, 1)) (h : ∀ t : State, t.heap = H → Rt (some (.int r)) t) :
    W p l e R s m args below meth c H locs cells slots (cy_E below A Rt args s) (F0 m pc ls [.int r]) :=
  cy_ret hc hs (W.iret (v := r) hx hb hr (fun t ht _ => ⟨hS.F ht, _, rfl, h t ht⟩) hS.2.2 d hlocks)
end YEnds
set_option maxHeartbeats 4000000 in
set_option maxRecDepth 100000 in
theorem K_La_code {l : Launch} {G : GT} (g : GOK l G) (σ : CS) (i o d a b n : Int32) (wf : Wf σ) : cy_M l y_La_code (.codeWith y_La_code b_La_code 8 (some .int) [(0, 13, 16, 13)]) 8 136 (gA G) [.ref (gad G 0), .int i, .int o, .int d, .int a, .int b, .int n] (Cw G σ) (Ri G (fun r u => (r = 0 ∧ badC i o d a b = false ∧ u = sQ σ (cP σ 0 (ix i)) (becQ o d a b n)) ∨ (r = 1 ∧ badC i o d a b = true ∧ u = σ))) := by
  refine cy_of (by decide +kernel) ?_
  intro p e s m below meth c s₁ B hml ht hc0
  have hc : Cw G σ s := hc0
  have hx := B.exec
  have hb := B.bytes
  have hr := B.returns
  have hown : s.vm.findClass R_La = some m.cls := findClass_of_methodNamed B.named
  have hlocks := B.notSynchronized
  have hT := g.tb hc
  have hK := g.k hc
  have hS : va_S (gA G) s.heap s.heap [] := va_S.rf
  have hP := hc.2.2
  have hl := lv_entry ([.ref (gad G 0), .int i, .int o, .int d, .int a, .int b, .int n]) (n := 8) (Nat.le_of_ble_eq_true rfl)
  rw [lg_entry_eq]
  generalize (lg_sl ([.ref (gad G 0), .int i, .int o, .int d, .int a, .int b, .int n]) ++ List.replicate (8 - (lg_sl ([.ref (gad G 0), .int i, .int o, .int d, .int a, .int b, .int n])).length) Slot.unset).toArray = ls at hl ⊢
  have hl : lv_has ls 8 [(0, .ref (gad G 0)), (1, .int i), (2, .int o), (3, .int d), (4, .int a), (5, .int b), (6, .int n)] := hl
  refine lv_aload_n hx hb d_La_code_0 rfl (lv_at hl 0 rfl) ?_
  refine lv_iload_n hx hb d_La_code_1 rfl (lv_at hl 1 rfl) ?_
  refine lv_iload_n hx hb d_La_code_2 rfl (lv_at hl 2 rfl) ?_
  refine lv_iload_n hx hb d_La_code_3 rfl (lv_at hl 3 rfl) ?_
  refine lv_iload hx hb d_La_code_4 (lv_at hl 4 rfl) ?_
  refine lv_iload hx hb d_La_code_6 (lv_at hl 5 rfl) ?_
  refine lv_iload hx hb d_La_code_8 (lv_at hl 6 rfl) ?_
  refine cx_V (A0 := gA G) (n := 6) (C := R_Pc) (As := [.int i, .int o, .int d, .int a, .int b, .int n]) (rest := []) ⟨hx, hb, hml, hown, fun _ h9 => nomatch h9⟩ (K_Pc_code g σ i o d a b n wf) (k_290 hT) (k_291 hT) (k_292 hT) (k_293 hT) (k_1 hT) rfl (by decide +kernel) (va_recv hK hP (ci := 6) (q0 := 0) rfl rfl) (hc.at g va_S.rf hP) ⟨by decide, by decide⟩ ⟨by decide, by decide⟩ hl.1 (Nat.le_of_ble_eq_true rfl) d_La_code_10 (fun _ h9 => h9) hS (fun E ce q t H1 locs ht9 hTx hz hk hS hce hcv hcl => ?_) (fun v t H locs ht9 hRt hz hk hS => ?_)
  · obtain ⟨u, hq, hP⟩ := hTx
    rw [ht9] at hP
    obtain ⟨x0, hsp, x1, x2, x3, x4⟩ := tab1 ht
    obtain ⟨rfl, hb9, eu⟩ := hq
    have hcl9 : s.vm.findClass "java/lang/IllegalArgumentException" = some ce.cls := hcl
    refine cx_catch hown hce hcv [] x0 [] (by rw [hsp]; rfl) hcl9 (k_299 hT) (by rw [x4]; decide) (by rw [x4]; exact (k_289 hT)) (cov x1 x2 (by decide) (by decide)) (fun _ h9 => nomatch h9) ?_
    rw [x3]
    refine lv_astore (lv' := [(7, .ref q), (0, .ref (gad G 0)), (1, .int i), (2, .int o), (3, .int d), (4, .int a), (5, .int b), (6, .int n)]) hx hb d_La_code_16 hl (by decide) rfl (fun ls hl => ?_)
    refine lv_iconst (v := 1) hx hb d_La_code_18 (by decide) ?_
    exact yend (by omega) (by omega) hx hb hr hlocks hS d_La_code_19 (fun t9 h9 => ⟨1, u, rfl, Or.inr ⟨rfl, hb9, eu⟩, by rw [h9]; exact hP⟩)
  · obtain ⟨u, rfl, ⟨hb9, eu⟩, hP⟩ := hRt
    rw [ht9] at hP
    refine W.eq (g2 := F0 m 13 ls []) rfl ?_
    refine lv_goto (tgt := 20) hx hb d_La_code_13 (by decide) ?_
    refine lv_iconst (v := 0) hx hb d_La_code_20 (by decide) ?_
    exact yend (by omega) (by omega) hx hb hr hlocks hS d_La_code_21 (fun t9 h9 => ⟨0, u, rfl, Or.inl ⟨rfl, hb9, eu⟩, by rw [h9]; exact hP⟩)

set_option maxHeartbeats 4000000 in
set_option maxRecDepth 100000 in
theorem K_La_cell2 {l : Launch} {G : GT} (g : GOK l G) (σ : CS) (i : Int32) (v : UInt64) : cy_M l y_La_cell2 (.codeWith y_La_cell2 b_La_cell2 5 (some .int) [(0, 6, 9, 13)]) 8 134 (gA G) [.ref (gad G 0), .int i, .double v] (Cw G σ) (Ri G (fun r u => (r = 0 ∧ (badR i 47 = false ∧ badV v = false) ∧ u = sF σ 0 (vf_upd (cF σ 0) (ix i) v)) ∨ (r = 1 ∧ (badR i 47 = true ∨ badV v = true) ∧ u = σ))) := by
  refine cy_of (by decide +kernel) ?_
  intro p e s m below meth c s₁ B hml ht hc0
  have hc : Cw G σ s := hc0
  have hx := B.exec
  have hb := B.bytes
  have hr := B.returns
  have hown : s.vm.findClass R_La = some m.cls := findClass_of_methodNamed B.named
  have hlocks := B.notSynchronized
  have hT := g.tb hc
  have hK := g.k hc
  have hS : va_S (gA G) s.heap s.heap [] := va_S.rf
  have hP := hc.2.2
  have hl := lv_entry ([.ref (gad G 0), .int i, .double v]) (n := 5) (Nat.le_of_ble_eq_true rfl)
  rw [lg_entry_eq]
  generalize (lg_sl ([.ref (gad G 0), .int i, .double v]) ++ List.replicate (5 - (lg_sl ([.ref (gad G 0), .int i, .double v])).length) Slot.unset).toArray = ls at hl ⊢
  have hl : lv_has ls 5 [(0, .ref (gad G 0)), (1, .int i), (2, .double v)] := hl
  refine lv_aload_n hx hb d_La_cell2_0 rfl (lv_at hl 0 rfl) ?_
  refine lv_iload_n hx hb d_La_cell2_1 rfl (lv_at hl 1 rfl) ?_
  refine lv_dload_n hx hb d_La_cell2_2 rfl (lv_at hl 2 rfl) ?_
  refine cx_V (A0 := gA G) (n := 2) (C := R_Pc) (As := [.int i, .double v]) (rest := []) ⟨hx, hb, hml, hown, fun _ h9 => nomatch h9⟩ (K_Pc_cell g σ i v) (k_377 hT) (k_378 hT) (k_379 hT) (k_380 hT) (k_1 hT) rfl (by decide +kernel) (va_recv hK hP (ci := 6) (q0 := 0) rfl rfl) (hc.at g va_S.rf hP) ⟨by decide, by decide⟩ ⟨by decide, by decide⟩ hl.1 (Nat.le_of_ble_eq_true rfl) d_La_cell2_3 (fun _ h9 => h9) hS (fun E ce q t H1 locs ht9 hTx hz hk hS hce hcv hcl => ?_) (fun v t H locs ht9 hRt hz hk hS => ?_)
  · obtain ⟨u, hq, hP⟩ := hTx
    rw [ht9] at hP
    obtain ⟨x0, hsp, x1, x2, x3, x4⟩ := tab1 ht
    obtain ⟨rfl, hb9, eu⟩ := hq
    have hcl9 : s.vm.findClass "java/lang/IllegalArgumentException" = some ce.cls := hcl
    refine cx_catch hown hce hcv [] x0 [] (by rw [hsp]; rfl) hcl9 (k_299 hT) (by rw [x4]; decide) (by rw [x4]; exact (k_289 hT)) (cov x1 x2 (by decide) (by decide)) (fun _ h9 => nomatch h9) ?_
    rw [x3]
    refine lv_astore (lv' := [(4, .ref q), (0, .ref (gad G 0)), (1, .int i), (2, .double v)]) hx hb d_La_cell2_9 hl (by decide) rfl (fun ls hl => ?_)
    refine lv_iconst (v := 1) hx hb d_La_cell2_11 (by decide) ?_
    exact yend (by omega) (by omega) hx hb hr hlocks hS d_La_cell2_12 (fun t9 h9 => ⟨1, u, rfl, Or.inr ⟨rfl, hb9.imp id And.right, eu⟩, by rw [h9]; exact hP⟩)
  · obtain ⟨u, rfl, ⟨hb9, eu⟩, hP⟩ := hRt
    rw [ht9] at hP
    refine W.eq (g2 := F0 m 6 ls []) rfl ?_
    refine lv_goto (tgt := 13) hx hb d_La_cell2_6 (by decide) ?_
    refine lv_iconst (v := 0) hx hb d_La_cell2_13 (by decide) ?_
    exact yend (by omega) (by omega) hx hb hr hlocks hS d_La_cell2_14 (fun t9 h9 => ⟨0, u, rfl, Or.inl ⟨rfl, hb9, eu⟩, by rw [h9]; exact hP⟩)

set_option maxHeartbeats 4000000 in
set_option maxRecDepth 100000 in
theorem K_La_start {l : Launch} {G : GT} (g : GOK l G) (σ : CS) (i : Int32) : cy_M l y_La_start (.codeWith y_La_start b_La_start 3 (some .int) [(0, 5, 8, 13)]) 8 131 (gA G) [.ref (gad G 0), .int i] (Cw G σ) (Ri G (fun r u => (r = 0 ∧ badR i 23 = false ∧ u = stF σ i) ∨ (r = 1 ∧ badR i 23 = true ∧ u = σ))) := by
  refine cy_of (by decide +kernel) ?_
  intro p e s m below meth c s₁ B hml ht hc0
  have hc : Cw G σ s := hc0
  have hx := B.exec
  have hb := B.bytes
  have hr := B.returns
  have hown : s.vm.findClass R_La = some m.cls := findClass_of_methodNamed B.named
  have hlocks := B.notSynchronized
  have hT := g.tb hc
  have hK := g.k hc
  have hS : va_S (gA G) s.heap s.heap [] := va_S.rf
  have hP := hc.2.2
  have hl := lv_entry ([.ref (gad G 0), .int i]) (n := 3) (Nat.le_of_ble_eq_true rfl)
  rw [lg_entry_eq]
  generalize (lg_sl ([.ref (gad G 0), .int i]) ++ List.replicate (3 - (lg_sl ([.ref (gad G 0), .int i])).length) Slot.unset).toArray = ls at hl ⊢
  have hl : lv_has ls 3 [(0, .ref (gad G 0)), (1, .int i)] := hl
  refine lv_aload_n hx hb d_La_start_0 rfl (lv_at hl 0 rfl) ?_
  refine lv_iload_n hx hb d_La_start_1 rfl (lv_at hl 1 rfl) ?_
  refine cx_V (A0 := gA G) (n := 1) (C := R_Pc) (As := [.int i]) (rest := []) ⟨hx, hb, hml, hown, fun _ h9 => nomatch h9⟩ (K_Pc_start g σ i) (k_386 hT) (k_387 hT) (k_388 hT) (k_389 hT) (k_1 hT) rfl (by decide +kernel) (va_recv hK hP (ci := 6) (q0 := 0) rfl rfl) (hc.at g va_S.rf hP) ⟨by decide, by decide⟩ ⟨by decide, by decide⟩ hl.1 (Nat.le_of_ble_eq_true rfl) d_La_start_2 (fun _ h9 => h9) hS (fun E ce q t H1 locs ht9 hTx hz hk hS hce hcv hcl => ?_) (fun v t H locs ht9 hRt hz hk hS => ?_)
  · obtain ⟨u, hq, hP⟩ := hTx
    rw [ht9] at hP
    obtain ⟨x0, hsp, x1, x2, x3, x4⟩ := tab1 ht
    obtain ⟨rfl, hb9, eu⟩ := hq
    have hcl9 : s.vm.findClass "java/lang/IllegalArgumentException" = some ce.cls := hcl
    refine cx_catch hown hce hcv [] x0 [] (by rw [hsp]; rfl) hcl9 (k_299 hT) (by rw [x4]; decide) (by rw [x4]; exact (k_289 hT)) (cov x1 x2 (by decide) (by decide)) (fun _ h9 => nomatch h9) ?_
    rw [x3]
    refine lv_astore_n (lv' := [(2, .ref q), (0, .ref (gad G 0)), (1, .int i)]) hx hb d_La_start_8 rfl hl (by decide) rfl (fun ls hl => ?_)
    refine lv_iconst (v := 1) hx hb d_La_start_9 (by decide) ?_
    exact yend (by omega) (by omega) hx hb hr hlocks hS d_La_start_10 (fun t9 h9 => ⟨1, u, rfl, Or.inr ⟨rfl, hb9, eu⟩, by rw [h9]; exact hP⟩)
  · obtain ⟨u, rfl, ⟨hb9, eu⟩, hP⟩ := hRt
    rw [ht9] at hP
    refine W.eq (g2 := F0 m 5 ls []) rfl ?_
    refine lv_goto (tgt := 11) hx hb d_La_start_5 (by decide) ?_
    refine lv_iconst (v := 0) hx hb d_La_start_11 (by decide) ?_
    exact yend (by omega) (by omega) hx hb hr hlocks hS d_La_start_12 (fun t9 h9 => ⟨0, u, rfl, Or.inl ⟨rfl, hb9, eu⟩, by rw [h9]; exact hP⟩)

set_option maxHeartbeats 4000000 in
set_option maxRecDepth 100000 in
theorem K_La_whole {l : Launch} {G : GT} (g : GOK l G) (σ : CS) (r : Int32) {o : Nat} (ho : ¬ gA G o) (f : Nat → Int64) : cy_M l y_La_whole (.codeWith y_La_whole b_La_whole 4 (some .int) [(0, 9, 12, 13)]) 8 131 (Aw G o) [.ref (gad G 0), .int r, .ref o] (LwO G σ (oL G o f)) (RyL G o (fun r9 u f9 => (r9 = 0 ∧ badR r 7 = false ∧ f9 0 = (cJ σ 0 (ix r)).toInt64 ∧ u = σ) ∨ (r9 = 1 ∧ badR r 7 = true ∧ u = σ))) := by
  refine cy_of (by decide +kernel) ?_
  intro p e s m below meth c s₁ B hml ht hc0
  obtain ⟨hc, hX⟩ := hc0
  have hx := B.exec
  have hb := B.bytes
  have hr := B.returns
  have hown : s.vm.findClass R_La = some m.cls := findClass_of_methodNamed B.named
  have hlocks := B.notSynchronized
  have hT := g.tb hc
  have hK := g.k hc
  have hS : va_S (Aw G o) s.heap s.heap [] := va_S.rf
  have hP := hc.2.2
  have hl := lv_entry ([.ref (gad G 0), .int r, .ref o]) (n := 4) (Nat.le_of_ble_eq_true rfl)
  rw [lg_entry_eq]
  generalize (lg_sl ([.ref (gad G 0), .int r, .ref o]) ++ List.replicate (4 - (lg_sl ([.ref (gad G 0), .int r, .ref o])).length) Slot.unset).toArray = ls at hl ⊢
  have hl : lv_has ls 4 [(0, .ref (gad G 0)), (1, .int r), (2, .ref o)] := hl
  refine lv_aload_n hx hb d_La_whole_0 rfl (lv_at hl 2 rfl) ?_
  refine lv_iconst (v := 0) hx hb d_La_whole_1 (by decide) ?_
  refine lv_aload_n hx hb d_La_whole_2 rfl (lv_at hl 0 rfl) ?_
  refine lv_iload_n hx hb d_La_whole_3 rfl (lv_at hl 1 rfl) ?_
  refine cx_V (A0 := Aw G o) (n := 1) (C := R_Pc) (As := [.int r]) (rest := [.int 0, .ref o]) ⟨hx, hb, hml, hown, fun _ h9 => nomatch h9⟩ (K_Pc_whole g σ r) (k_535 hT) (k_536 hT) (k_537 hT) (k_538 hT) (k_1 hT) rfl (by decide +kernel) (va_recv hK hP (ci := 6) (q0 := 0) rfl rfl) (hc.at g va_S.rf hP) ⟨by decide, by decide⟩ ⟨by decide, by decide⟩ hl.1 (Nat.le_of_ble_eq_true rfl) d_La_whole_4 (fun _ h9 => Or.inl h9) hS (fun E ce q t H1 locs ht9 hTx hz hk hS hce hcv hcl => ?_) (fun v t H locs ht9 hRt hz hk hS => ?_)
  · obtain ⟨u, hq, hP⟩ := hTx
    rw [ht9] at hP
    have hX1 := keepX hX ho hk
    obtain ⟨x0, hsp, x1, x2, x3, x4⟩ := tab1 ht
    obtain ⟨rfl, hb9, eu⟩ := hq
    have hcl9 : s.vm.findClass "java/lang/IllegalArgumentException" = some ce.cls := hcl
    refine cx_catch hown hce hcv [] x0 [] (by rw [hsp]; rfl) hcl9 (k_299 hT) (by rw [x4]; decide) (by rw [x4]; exact (k_289 hT)) (cov x1 x2 (by decide) (by decide)) (fun _ h9 => nomatch h9) ?_
    rw [x3]
    refine lv_astore_n (lv' := [(3, .ref q), (0, .ref (gad G 0)), (1, .int r), (2, .ref o)]) hx hb d_La_whole_12 rfl hl (by decide) rfl (fun ls hl => ?_)
    refine lv_iconst (v := 1) hx hb d_La_whole_13 (by decide) ?_
    exact yend (by omega) (by omega) hx hb hr hlocks hS d_La_whole_14 (fun t9 h9 => ⟨1, u, f, rfl, Or.inr ⟨rfl, hb9, eu⟩, by rw [h9]; exact hP, by rw [h9]; exact hX1⟩)
  · obtain ⟨v9, u, rfl, ⟨⟨hb9, ev⟩, eu⟩, hP⟩ := hRt
    rw [ht9] at hP
    have hX1 := keepX hX ho hk
    refine W.eq (g2 := F0 m 7 ls [.int v9, .int 0, .ref o]) rfl ?_
    refine lv_i2l (v := (v9).toInt64) hx hb d_La_whole_7 rfl ?_
    refine va_last (f := f) hx hb hK (app_P hP hX1) (out_D g ho _ _) hS 43 4 out_at rfl (vp_in_nI (n := 0) (by decide) (by decide)) d_La_whole_8 (fun H locs hP hD hS => ?_)
    rw [out_set] at hP
    refine lv_goto (tgt := 15) hx hb d_La_whole_9 (by decide) ?_
    refine lv_iconst (v := 0) hx hb d_La_whole_15 (by decide) ?_
    exact yend (by omega) (by omega) hx hb hr hlocks hS d_La_whole_16 (fun t9 h9 => ⟨0, u, vp_updL f (0 : Int32).toNatClampNeg v9.toInt64, rfl, Or.inl ⟨rfl, hb9, by rw [← ev]; rfl, eu⟩, by rw [h9]; exact app_l hP, by rw [h9]; exact app_r hP⟩)

set_option maxHeartbeats 4000000 in
set_option maxRecDepth 100000 in
theorem K_La_fraction {l : Launch} {G : GT} (g : GOK l G) (σ : CS) (r : Int32) {o : Nat} (ho : ¬ gA G o) (f : Nat → UInt64) : cy_M l y_La_fraction (.codeWith y_La_fraction b_La_fraction 4 (some .int) [(0, 8, 11, 13)]) 8 131 (Aw G o) [.ref (gad G 0), .int r, .ref o] (LwO G σ (oD G o f)) (RyD G o (fun r9 u f9 => (r9 = 0 ∧ badR r 3 = false ∧ f9 0 = (cF σ 1 (ix r)) ∧ u = σ) ∨ (r9 = 1 ∧ badR r 3 = true ∧ u = σ))) := by
  refine cy_of (by decide +kernel) ?_
  intro p e s m below meth c s₁ B hml ht hc0
  obtain ⟨hc, hX⟩ := hc0
  have hx := B.exec
  have hb := B.bytes
  have hr := B.returns
  have hown : s.vm.findClass R_La = some m.cls := findClass_of_methodNamed B.named
  have hlocks := B.notSynchronized
  have hT := g.tb hc
  have hK := g.k hc
  have hS : va_S (Aw G o) s.heap s.heap [] := va_S.rf
  have hP := hc.2.2
  have hl := lv_entry ([.ref (gad G 0), .int r, .ref o]) (n := 4) (Nat.le_of_ble_eq_true rfl)
  rw [lg_entry_eq]
  generalize (lg_sl ([.ref (gad G 0), .int r, .ref o]) ++ List.replicate (4 - (lg_sl ([.ref (gad G 0), .int r, .ref o])).length) Slot.unset).toArray = ls at hl ⊢
  have hl : lv_has ls 4 [(0, .ref (gad G 0)), (1, .int r), (2, .ref o)] := hl
  refine lv_aload_n hx hb d_La_fraction_0 rfl (lv_at hl 2 rfl) ?_
  refine lv_iconst (v := 0) hx hb d_La_fraction_1 (by decide) ?_
  refine lv_aload_n hx hb d_La_fraction_2 rfl (lv_at hl 0 rfl) ?_
  refine lv_iload_n hx hb d_La_fraction_3 rfl (lv_at hl 1 rfl) ?_
  refine cx_V (A0 := Aw G o) (n := 1) (C := R_Pc) (As := [.int r]) (rest := [.int 0, .ref o]) ⟨hx, hb, hml, hown, fun _ h9 => nomatch h9⟩ (K_Pc_fraction g σ r) (k_542 hT) (k_543 hT) (k_544 hT) (k_545 hT) (k_1 hT) rfl (by decide +kernel) (va_recv hK hP (ci := 6) (q0 := 0) rfl rfl) (hc.at g va_S.rf hP) ⟨by decide, by decide⟩ ⟨by decide, by decide⟩ hl.1 (Nat.le_of_ble_eq_true rfl) d_La_fraction_4 (fun _ h9 => Or.inl h9) hS (fun E ce q t H1 locs ht9 hTx hz hk hS hce hcv hcl => ?_) (fun v t H locs ht9 hRt hz hk hS => ?_)
  · obtain ⟨u, hq, hP⟩ := hTx
    rw [ht9] at hP
    have hX1 := keepX hX ho hk
    obtain ⟨x0, hsp, x1, x2, x3, x4⟩ := tab1 ht
    obtain ⟨rfl, hb9, eu⟩ := hq
    have hcl9 : s.vm.findClass "java/lang/IllegalArgumentException" = some ce.cls := hcl
    refine cx_catch hown hce hcv [] x0 [] (by rw [hsp]; rfl) hcl9 (k_299 hT) (by rw [x4]; decide) (by rw [x4]; exact (k_289 hT)) (cov x1 x2 (by decide) (by decide)) (fun _ h9 => nomatch h9) ?_
    rw [x3]
    refine lv_astore_n (lv' := [(3, .ref q), (0, .ref (gad G 0)), (1, .int r), (2, .ref o)]) hx hb d_La_fraction_11 rfl hl (by decide) rfl (fun ls hl => ?_)
    refine lv_iconst (v := 1) hx hb d_La_fraction_12 (by decide) ?_
    exact yend (by omega) (by omega) hx hb hr hlocks hS d_La_fraction_13 (fun t9 h9 => ⟨1, u, f, rfl, Or.inr ⟨rfl, hb9, eu⟩, by rw [h9]; exact hP, by rw [h9]; exact hX1⟩)
  · obtain ⟨v9, u, rfl, ⟨⟨hb9, ev⟩, eu⟩, hP⟩ := hRt
    rw [ht9] at hP
    have hX1 := keepX hX ho hk
    refine W.eq (g2 := F0 m 7 ls [.double v9, .int 0, .ref o]) rfl ?_
    refine va_dast (f := f) hx hb hK (app_P hP hX1) (out_D g ho _ _) hS 43 1 out_at rfl (vp_in_nI (n := 0) (by decide) (by decide)) d_La_fraction_7 (fun H locs hP hD hS => ?_)
    rw [out_set] at hP
    refine lv_goto (tgt := 14) hx hb d_La_fraction_8 (by decide) ?_
    refine lv_iconst (v := 0) hx hb d_La_fraction_14 (by decide) ?_
    exact yend (by omega) (by omega) hx hb hr hlocks hS d_La_fraction_15 (fun t9 h9 => ⟨0, u, vf_upd f (0 : Int32).toNatClampNeg v9, rfl, Or.inl ⟨rfl, hb9, by rw [← ev]; rfl, eu⟩, by rw [h9]; exact app_l hP, by rw [h9]; exact app_r hP⟩)

set_option maxHeartbeats 4000000 in
set_option maxRecDepth 100000 in
theorem K_La_memory {l : Launch} {G : GT} (g : GOK l G) (σ : CS) (r : Int32) {o : Nat} (ho : ¬ gA G o) (f : Nat → UInt64) : cy_M l y_La_memory (.codeWith y_La_memory b_La_memory 4 (some .int) [(0, 8, 11, 13)]) 8 131 (Aw G o) [.ref (gad G 0), .int r, .ref o] (LwO G σ (oD G o f)) (RyD G o (fun r9 u f9 => (r9 = 0 ∧ badR r 47 = false ∧ f9 0 = (cF σ 0 (ix r)) ∧ u = σ) ∨ (r9 = 1 ∧ badR r 47 = true ∧ u = σ))) := by
  refine cy_of (by decide +kernel) ?_
  intro p e s m below meth c s₁ B hml ht hc0
  obtain ⟨hc, hX⟩ := hc0
  have hx := B.exec
  have hb := B.bytes
  have hr := B.returns
  have hown : s.vm.findClass R_La = some m.cls := findClass_of_methodNamed B.named
  have hlocks := B.notSynchronized
  have hT := g.tb hc
  have hK := g.k hc
  have hS : va_S (Aw G o) s.heap s.heap [] := va_S.rf
  have hP := hc.2.2
  have hl := lv_entry ([.ref (gad G 0), .int r, .ref o]) (n := 4) (Nat.le_of_ble_eq_true rfl)
  rw [lg_entry_eq]
  generalize (lg_sl ([.ref (gad G 0), .int r, .ref o]) ++ List.replicate (4 - (lg_sl ([.ref (gad G 0), .int r, .ref o])).length) Slot.unset).toArray = ls at hl ⊢
  have hl : lv_has ls 4 [(0, .ref (gad G 0)), (1, .int r), (2, .ref o)] := hl
  refine lv_aload_n hx hb d_La_memory_0 rfl (lv_at hl 2 rfl) ?_
  refine lv_iconst (v := 0) hx hb d_La_memory_1 (by decide) ?_
  refine lv_aload_n hx hb d_La_memory_2 rfl (lv_at hl 0 rfl) ?_
  refine lv_iload_n hx hb d_La_memory_3 rfl (lv_at hl 1 rfl) ?_
  refine cx_V (A0 := Aw G o) (n := 1) (C := R_Pc) (As := [.int r]) (rest := [.int 0, .ref o]) ⟨hx, hb, hml, hown, fun _ h9 => nomatch h9⟩ (K_Pc_memory g σ r) (k_549 hT) (k_550 hT) (k_551 hT) (k_552 hT) (k_1 hT) rfl (by decide +kernel) (va_recv hK hP (ci := 6) (q0 := 0) rfl rfl) (hc.at g va_S.rf hP) ⟨by decide, by decide⟩ ⟨by decide, by decide⟩ hl.1 (Nat.le_of_ble_eq_true rfl) d_La_memory_4 (fun _ h9 => Or.inl h9) hS (fun E ce q t H1 locs ht9 hTx hz hk hS hce hcv hcl => ?_) (fun v t H locs ht9 hRt hz hk hS => ?_)
  · obtain ⟨u, hq, hP⟩ := hTx
    rw [ht9] at hP
    have hX1 := keepX hX ho hk
    obtain ⟨x0, hsp, x1, x2, x3, x4⟩ := tab1 ht
    obtain ⟨rfl, hb9, eu⟩ := hq
    have hcl9 : s.vm.findClass "java/lang/IllegalArgumentException" = some ce.cls := hcl
    refine cx_catch hown hce hcv [] x0 [] (by rw [hsp]; rfl) hcl9 (k_299 hT) (by rw [x4]; decide) (by rw [x4]; exact (k_289 hT)) (cov x1 x2 (by decide) (by decide)) (fun _ h9 => nomatch h9) ?_
    rw [x3]
    refine lv_astore_n (lv' := [(3, .ref q), (0, .ref (gad G 0)), (1, .int r), (2, .ref o)]) hx hb d_La_memory_11 rfl hl (by decide) rfl (fun ls hl => ?_)
    refine lv_iconst (v := 1) hx hb d_La_memory_12 (by decide) ?_
    exact yend (by omega) (by omega) hx hb hr hlocks hS d_La_memory_13 (fun t9 h9 => ⟨1, u, f, rfl, Or.inr ⟨rfl, hb9, eu⟩, by rw [h9]; exact hP, by rw [h9]; exact hX1⟩)
  · obtain ⟨v9, u, rfl, ⟨⟨hb9, ev⟩, eu⟩, hP⟩ := hRt
    rw [ht9] at hP
    have hX1 := keepX hX ho hk
    refine W.eq (g2 := F0 m 7 ls [.double v9, .int 0, .ref o]) rfl ?_
    refine va_dast (f := f) hx hb hK (app_P hP hX1) (out_D g ho _ _) hS 43 1 out_at rfl (vp_in_nI (n := 0) (by decide) (by decide)) d_La_memory_7 (fun H locs hP hD hS => ?_)
    rw [out_set] at hP
    refine lv_goto (tgt := 14) hx hb d_La_memory_8 (by decide) ?_
    refine lv_iconst (v := 0) hx hb d_La_memory_14 (by decide) ?_
    exact yend (by omega) (by omega) hx hb hr hlocks hS d_La_memory_15 (fun t9 h9 => ⟨0, u, vf_upd f (0 : Int32).toNatClampNeg v9, rfl, Or.inl ⟨rfl, hb9, by rw [← ev]; rfl, eu⟩, by rw [h9]; exact app_l hP, by rw [h9]; exact app_r hP⟩)

set_option maxHeartbeats 4000000 in
set_option maxRecDepth 100000 in
theorem K_La_told {l : Launch} {G : GT} (g : GOK l G) (σ : CS) (i w : Int32) (wf : Wf σ) {o : Nat} (ho : ¬ gA G o) (f : Nat → Int64) : cy_M l y_La_told (.codeWith y_La_told b_La_told 5 (some .int) [(0, 10, 13, 13)]) 8 133 (Aw G o) [.ref (gad G 0), .int i, .int w, .ref o] (LwO G σ (oL G o f)) (RyL G o (fun r9 u f9 => (r9 = 0 ∧ (badR i 23 = false ∧ badR w 4 = false) ∧ f9 0 = (toldF (cQ σ (cP σ 0 (ix i))) w).toInt64 ∧ u = σ) ∨ (r9 = 1 ∧ (badR i 23 = true ∨ badR w 4 = true) ∧ u = σ))) := by
  refine cy_of (by decide +kernel) ?_
  intro p e s m below meth c s₁ B hml ht hc0
  obtain ⟨hc, hX⟩ := hc0
  have hx := B.exec
  have hb := B.bytes
  have hr := B.returns
  have hown : s.vm.findClass R_La = some m.cls := findClass_of_methodNamed B.named
  have hlocks := B.notSynchronized
  have hT := g.tb hc
  have hK := g.k hc
  have hS : va_S (Aw G o) s.heap s.heap [] := va_S.rf
  have hP := hc.2.2
  have hl := lv_entry ([.ref (gad G 0), .int i, .int w, .ref o]) (n := 5) (Nat.le_of_ble_eq_true rfl)
  rw [lg_entry_eq]
  generalize (lg_sl ([.ref (gad G 0), .int i, .int w, .ref o]) ++ List.replicate (5 - (lg_sl ([.ref (gad G 0), .int i, .int w, .ref o])).length) Slot.unset).toArray = ls at hl ⊢
  have hl : lv_has ls 5 [(0, .ref (gad G 0)), (1, .int i), (2, .int w), (3, .ref o)] := hl
  refine lv_aload_n hx hb d_La_told_0 rfl (lv_at hl 3 rfl) ?_
  refine lv_iconst (v := 0) hx hb d_La_told_1 (by decide) ?_
  refine lv_aload_n hx hb d_La_told_2 rfl (lv_at hl 0 rfl) ?_
  refine lv_iload_n hx hb d_La_told_3 rfl (lv_at hl 1 rfl) ?_
  refine lv_iload_n hx hb d_La_told_4 rfl (lv_at hl 2 rfl) ?_
  refine cx_V (A0 := Aw G o) (n := 2) (C := R_Pc) (As := [.int i, .int w]) (rest := [.int 0, .ref o]) ⟨hx, hb, hml, hown, fun _ h9 => nomatch h9⟩ (K_Pc_told g σ i w wf) (k_556 hT) (k_557 hT) (k_558 hT) (k_559 hT) (k_1 hT) rfl (by decide +kernel) (va_recv hK hP (ci := 6) (q0 := 0) rfl rfl) (hc.at g va_S.rf hP) ⟨by decide, by decide⟩ ⟨by decide, by decide⟩ hl.1 (Nat.le_of_ble_eq_true rfl) d_La_told_5 (fun _ h9 => Or.inl h9) hS (fun E ce q t H1 locs ht9 hTx hz hk hS hce hcv hcl => ?_) (fun v t H locs ht9 hRt hz hk hS => ?_)
  · obtain ⟨u, hq, hP⟩ := hTx
    rw [ht9] at hP
    have hX1 := keepX hX ho hk
    obtain ⟨x0, hsp, x1, x2, x3, x4⟩ := tab1 ht
    obtain ⟨rfl, hb9, eu⟩ := hq
    have hcl9 : s.vm.findClass "java/lang/IllegalArgumentException" = some ce.cls := hcl
    refine cx_catch hown hce hcv [] x0 [] (by rw [hsp]; rfl) hcl9 (k_299 hT) (by rw [x4]; decide) (by rw [x4]; exact (k_289 hT)) (cov x1 x2 (by decide) (by decide)) (fun _ h9 => nomatch h9) ?_
    rw [x3]
    refine lv_astore (lv' := [(4, .ref q), (0, .ref (gad G 0)), (1, .int i), (2, .int w), (3, .ref o)]) hx hb d_La_told_13 hl (by decide) rfl (fun ls hl => ?_)
    refine lv_iconst (v := 1) hx hb d_La_told_15 (by decide) ?_
    exact yend (by omega) (by omega) hx hb hr hlocks hS d_La_told_16 (fun t9 h9 => ⟨1, u, f, rfl, Or.inr ⟨rfl, hb9, eu⟩, by rw [h9]; exact hP, by rw [h9]; exact hX1⟩)
  · obtain ⟨v9, u, rfl, ⟨⟨hb9, ev⟩, eu⟩, hP⟩ := hRt
    rw [ht9] at hP
    have hX1 := keepX hX ho hk
    refine W.eq (g2 := F0 m 8 ls [.int v9, .int 0, .ref o]) rfl ?_
    refine lv_i2l (v := (v9).toInt64) hx hb d_La_told_8 rfl ?_
    refine va_last (f := f) hx hb hK (app_P hP hX1) (out_D g ho _ _) hS 43 4 out_at rfl (vp_in_nI (n := 0) (by decide) (by decide)) d_La_told_9 (fun H locs hP hD hS => ?_)
    rw [out_set] at hP
    refine lv_goto (tgt := 17) hx hb d_La_told_10 (by decide) ?_
    refine lv_iconst (v := 0) hx hb d_La_told_17 (by decide) ?_
    exact yend (by omega) (by omega) hx hb hr hlocks hS d_La_told_18 (fun t9 h9 => ⟨0, u, vp_updL f (0 : Int32).toNatClampNeg v9.toInt64, rfl, Or.inl ⟨rfl, hb9, by rw [← ev]; rfl, eu⟩, by rw [h9]; exact app_l hP, by rw [h9]; exact app_r hP⟩)

/-- what the law's run answers -/
def RunY (σ : CS) (n : Int32) (r : Int32) (u : CS) (f : Nat → Int64) : Prop := (r = 1 ∧ badN n = true ∧ u = σ) ∨ (r = 2 ∧ badN n = false ∧ ¬ cI σ 1 = 0 ∧ u = σ) ∨ (badN n = false ∧ cI σ 1 = 0 ∧ r = nI (ruF (ix n) σ 0 n).1 ∧ u = (ruF (ix n) σ 0 n).2.2 ∧ ((ruF (ix n) σ 0 n).1 = 0 → f 0 = (ruF (ix n) σ 0 n).2.1.toInt64))
set_option maxHeartbeats 4000000 in
set_option maxRecDepth 100000 in
theorem K_La_run {l : Launch} {G : GT} (g : GOK l G) (hno : Tno (gS G)) (σ : CS) (n : Int32) (wf : Wf σ) {o : Nat} (ho : ¬ gA G o) (f : Nat → Int64) : cy_M l y_La_run (.codeWith y_La_run b_La_run 4 (some .int) [(0, 9, 12, 13), (0, 9, 15, 27), (0, 9, 18, 29), (0, 9, 21, 31)]) 12 237 (Aw G o) [.ref (gad G 0), .int n, .ref o] (LwO G σ (oL G o f)) (RyL G o (RunY σ n)) := by
  refine cy_of (by decide +kernel) ?_
  intro p e s m below meth c s₁ B hml ht hc0
  obtain ⟨hc, hX⟩ := hc0
  have hx := B.exec
  have hb := B.bytes
  have hr := B.returns
  have hown : s.vm.findClass R_La = some m.cls := findClass_of_methodNamed B.named
  have hlocks := B.notSynchronized
  have hT := g.tb hc
  have hK := g.k hc
  have hS : va_S (Aw G o) s.heap s.heap [] := va_S.rf
  have hP := hc.2.2
  have hl := lv_entry ([.ref (gad G 0), .int n, .ref o]) (n := 4) (Nat.le_of_ble_eq_true rfl)
  rw [lg_entry_eq]
  generalize (lg_sl ([.ref (gad G 0), .int n, .ref o]) ++ List.replicate (4 - (lg_sl ([.ref (gad G 0), .int n, .ref o])).length) Slot.unset).toArray = ls at hl ⊢
  have hl : lv_has ls 4 [(0, .ref (gad G 0)), (1, .int n), (2, .ref o)] := hl
  refine lv_aload_n hx hb d_La_run_0 rfl (lv_at hl 2 rfl) ?_
  refine lv_iconst (v := 0) hx hb d_La_run_1 (by decide) ?_
  refine lv_aload_n hx hb d_La_run_2 rfl (lv_at hl 0 rfl) ?_
  refine lv_iload_n hx hb d_La_run_3 rfl (lv_at hl 1 rfl) ?_
  refine cx_V (A0 := Aw G o) (n := 1) (C := R_Pc) (As := [.int n]) (rest := [.int 0, .ref o]) ⟨hx, hb, hml, hown, fun _ h9 => nomatch h9⟩ (K_Pc_run g σ n wf) (k_408 hT) (k_409 hT) (k_410 hT) (k_411 hT) (k_1 hT) rfl (by decide +kernel) (va_recv hK hP (ci := 6) (q0 := 0) rfl rfl) (hc.at g va_S.rf hP) ⟨by decide, by decide⟩ ⟨by decide, by decide⟩ hl.1 (Nat.le_of_ble_eq_true rfl) d_La_run_4 (fun _ h9 => Or.inl h9) hS (fun E ce q t H1 locs ht9 hTx hz hk hS hce hcv hcl => ?_) (fun v t H locs ht9 hRt hz hk hS => ?_)
  · obtain ⟨u, hq, hP⟩ := hTx
    rw [ht9] at hP
    have hX1 := keepX hX ho hk
    obtain ⟨x0, y0, z0, w0, hsp, x1, x2, x3, x4, y1, y2, y3, y4, z1, z2, z3, z4, w1, w2, w3, w4⟩ := tab4 ht
    rcases hq with ⟨rfl, hb9, eu⟩ | ⟨rfl, hb9, hs9, eu⟩ | ⟨hb9, hs9, ⟨rfl, hx9⟩ | ⟨rfl, hx9⟩, eu⟩
    · have hcl9 : s.vm.findClass "java/lang/IllegalArgumentException" = some ce.cls := hcl
      refine cx_catch hown hce hcv [] x0 [y0, z0, w0] (by rw [hsp]; rfl) hcl9 (k_299 hT) (by rw [x4]; decide) (by rw [x4]; exact (k_289 hT)) (cov x1 x2 (by decide) (by decide)) (fun _ h9 => nomatch h9) ?_
      rw [x3]
      refine lv_astore_n (lv' := [(3, .ref q), (0, .ref (gad G 0)), (1, .int n), (2, .ref o)]) hx hb d_La_run_12 rfl hl (by decide) rfl (fun ls hl => ?_)
      refine lv_iconst (v := 1) hx hb d_La_run_13 (by decide) ?_
      exact yend (by omega) (by omega) hx hb hr hlocks hS d_La_run_14 (fun t9 h9 => ⟨1, u, f, rfl, Or.inl ⟨rfl, hb9, eu⟩, by rw [h9]; exact hP, by rw [h9]; exact hX1⟩)
    · have hcl9 : s.vm.findClass "java/lang/IllegalStateException" = some ce.cls := hcl
      refine cx_catch hown hce hcv [x0] y0 [z0, w0] (by rw [hsp]; rfl) hcl9 (k_414 hT) (by rw [y4]; decide) (by rw [y4]; exact (k_405 hT)) (cov y1 y2 (by decide) (by decide)) (fun y hy => by
        simp only [List.mem_cons, List.not_mem_nil, or_false] at hy
        rcases hy with rfl
        exact ⟨"java/lang/IllegalArgumentException", by rw [x4]; decide, by rw [x4]; exact (k_289 hT), notc hno.1 hc.1.1.alike⟩) ?_
      rw [y3]
      refine lv_astore_n (lv' := [(3, .ref q), (0, .ref (gad G 0)), (1, .int n), (2, .ref o)]) hx hb d_La_run_15 rfl hl (by decide) rfl (fun ls hl => ?_)
      refine lv_iconst (v := 2) hx hb d_La_run_16 (by decide) ?_
      exact yend (by omega) (by omega) hx hb hr hlocks hS d_La_run_17 (fun t9 h9 => ⟨2, u, f, rfl, Or.inr (Or.inl ⟨rfl, hb9, hs9, eu⟩), by rw [h9]; exact hP, by rw [h9]; exact hX1⟩)
    · have hcl9 : s.vm.findClass "java/lang/IndexOutOfBoundsException" = some ce.cls := hcl
      refine cx_catch hown hce hcv [x0, y0] z0 [w0] (by rw [hsp]; rfl) hcl9 (k_445 hT) (by rw [z4]; decide) (by rw [z4]; exact (k_406 hT)) (cov z1 z2 (by decide) (by decide)) (fun y hy => by
        simp only [List.mem_cons, List.not_mem_nil, or_false] at hy
        rcases hy with rfl | rfl
        · exact ⟨"java/lang/IllegalArgumentException", by rw [x4]; decide, by rw [x4]; exact (k_289 hT), notc hno.2.1 hc.1.1.alike⟩
        · exact ⟨"java/lang/IllegalStateException", by rw [y4]; decide, by rw [y4]; exact (k_405 hT), notc hno.2.2.1 hc.1.1.alike⟩) ?_
      rw [z3]
      refine lv_astore_n (lv' := [(3, .ref q), (0, .ref (gad G 0)), (1, .int n), (2, .ref o)]) hx hb d_La_run_18 rfl hl (by decide) rfl (fun ls hl => ?_)
      refine lv_iconst (v := 3) hx hb d_La_run_19 (by decide) ?_
      exact yend (by omega) (by omega) hx hb hr hlocks hS d_La_run_20 (fun t9 h9 => ⟨3, u, f, rfl, Or.inr (Or.inr ⟨hb9, hs9, by rw [hx9]; rfl, eu, fun z => absurd (hx9.symm.trans z) (by decide)⟩), by rw [h9]; exact hP, by rw [h9]; exact hX1⟩)
    · have hcl9 : s.vm.findClass "java/lang/ArithmeticException" = some ce.cls := hcl
      refine cx_catch hown hce hcv [x0, y0, z0] w0 [] (by rw [hsp]; rfl) hcl9 (k_501 hT) (by rw [w4]; decide) (by rw [w4]; exact (k_407 hT)) (cov w1 w2 (by decide) (by decide)) (fun y hy => by
        simp only [List.mem_cons, List.not_mem_nil, or_false] at hy
        rcases hy with rfl | rfl | rfl
        · exact ⟨"java/lang/IllegalArgumentException", by rw [x4]; decide, by rw [x4]; exact (k_289 hT), notc hno.2.2.2.1 hc.1.1.alike⟩
        · exact ⟨"java/lang/IllegalStateException", by rw [y4]; decide, by rw [y4]; exact (k_405 hT), notc hno.2.2.2.2.1 hc.1.1.alike⟩
        · exact ⟨"java/lang/IndexOutOfBoundsException", by rw [z4]; decide, by rw [z4]; exact (k_406 hT), notc hno.2.2.2.2.2 hc.1.1.alike⟩) ?_
      rw [w3]
      refine lv_astore_n (lv' := [(3, .ref q), (0, .ref (gad G 0)), (1, .int n), (2, .ref o)]) hx hb d_La_run_21 rfl hl (by decide) rfl (fun ls hl => ?_)
      refine lv_iconst (v := 4) hx hb d_La_run_22 (by decide) ?_
      exact yend (by omega) (by omega) hx hb hr hlocks hS d_La_run_23 (fun t9 h9 => ⟨4, u, f, rfl, Or.inr (Or.inr ⟨hb9, hs9, by rw [hx9]; rfl, eu, fun z => absurd (hx9.symm.trans z) (by decide)⟩), by rw [h9]; exact hP, by rw [h9]; exact hX1⟩)
  · obtain ⟨v9, u, rfl, ⟨hb9, hs9, hx9, ev, eu⟩, hP⟩ := hRt
    rw [ht9] at hP
    have hX1 := keepX hX ho hk
    refine W.eq (g2 := F0 m 7 ls [.int v9, .int 0, .ref o]) rfl ?_
    refine lv_i2l (v := (v9).toInt64) hx hb d_La_run_7 rfl ?_
    refine va_last (f := f) hx hb hK (app_P hP hX1) (out_D g ho _ _) hS 43 4 out_at rfl (vp_in_nI (n := 0) (by decide) (by decide)) d_La_run_8 (fun H locs hP hD hS => ?_)
    rw [out_set] at hP
    refine lv_goto (tgt := 24) hx hb d_La_run_9 (by decide) ?_
    refine lv_iconst (v := 0) hx hb d_La_run_24 (by decide) ?_
    exact yend (by omega) (by omega) hx hb hr hlocks hS d_La_run_25 (fun t9 h9 => ⟨0, u, vp_updL f (0 : Int32).toNatClampNeg v9.toInt64, rfl, Or.inr (Or.inr ⟨hb9, hs9, by rw [hx9]; rfl, eu, fun _ => by rw [← ev]; rfl⟩), by rw [h9]; exact app_l hP, by rw [h9]; exact app_r hP⟩)

