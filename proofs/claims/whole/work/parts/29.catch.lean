/-! CALCULUS: methods with an exception table that always return (the law's wrappers) -/
section CYdefs
def cy_Q (A : Nat → Prop) (Rt : Option Value → State → Prop) : Array Value → State → Outcome → State → Prop := fun _ st o t =>
  va_F A st t ∧ st.WarmedH t.vm ∧ ∃ L : List Loc, (∀ z ∈ L, A z.base) ∧ ∃ v, o = .returned v ∧ Rt v t ∧ st.sameButNew ({ t with vm := st.vm } : State) L 1 6
def cy_M (l : Launch) (y : MethodName) (w0 : Cond) (fr lo : Nat) (A : Nat → Prop) (As : List Value) (Pre : State → Prop) (Rt : Option Value → State → Prop) : Prop :=
  MetFree l y (headSpec [w0] (cx_room fr lo)) (fun v U => v = As.toArray ∧ Pre U) (fun _ _ _ _ _ => True) (cy_Q A Rt)
def cy_E (below : List Frame) (A : Nat → Prop) (Rt : Option Value → State → Prop) (a : Array Value) (s : State) : State → Prop := fun t =>
  ∃ o, t.status = .running ∧ Ended t below o ∧ cy_Q A Rt a s o t
end CYdefs
section CYbody
variable {l : Launch} {y : MethodName} {cc : ByteArray} {maxL fr lo : Nat} {ret : Option FieldType} {A : Nat → Prop} {As : List Value} {Pre : State → Prop} {Rt : Option Value → State → Prop} {hs : List (Nat × Nat × Nat × Nat)}
theorem cy_of (hy : plainFor y = true)
    (body : ∀ p e s m below meth c s₁, BodyLoose p l y (headSpec [Cond.codeWith y cc maxL ret hs] (cx_room fr lo)) cc maxL ret e s m As.toArray below meth c s₁ → c.maxLocals = maxL → c.exceptionTable.toList.map (fun h => (h.startPc, h.endPc, h.handlerPc, h.catchType)) = hs → Pre s →
      W p l e (cx_room fr lo) s m As.toArray below meth c s.heap [] 0 0 (cy_E below A Rt As.toArray s) (entryFrame m As.toArray maxL)) : cy_M l y (.codeWith y cc maxL ret hs) fr lo A As Pre Rt := by
  refine MetFree.of_bodySF (code := cc) (maxLocals := maxL) (ret := ret) hy ?_ ?_
  · intro args s m h hn
    obtain ⟨m', meth, c, h0, h1, h2, h3, h4, h5, h6, h7, h8⟩ := Cond.codeWith_spec (atoms_spec (ws := [Cond.codeWith y cc maxL ret hs]) h _ List.mem_cons_self)
    cases hn.symm.trans h0
    exact ⟨meth, c, h1, h2, h3, h4, h6, h7⟩
  · intro p e s m args below meth c s₁ B hml hP _
    obtain ⟨rfl, hP⟩ := hP
    have hh0 : s₁.heap = s.heap := by rw [B.state]; rfl
    have ht : c.exceptionTable.toList.map (fun h => (h.startPc, h.endPc, h.handlerPc, h.catchType)) = hs := by
      obtain ⟨m', meth9, c9, h0, h1, h2, h3, h4, h5, -⟩ := Cond.codeWith_spec (atoms_spec (ws := [Cond.codeWith y cc maxL ret hs]) B.pre _ List.mem_cons_self)
      cases B.named.symm.trans h0
      cases Option.some.inj (h1.symm.trans B.method)
      cases Option.some.inj (h2.symm.trans (Stand.of_body B).code)
      exact h5
    obtain ⟨t, a1, o, b1, b2, b3⟩ := body p e s m below meth c s₁ B hml ht hP s₁ hh0 (Stand.of_body B)
    exact ⟨t, o, a1, b1, b2, b3⟩
end CYbody
section CYends
variable {p : Program} {l : Launch} {e : Env} {R : Room} {s : State} {m : MethodId} {args : Array Value} {below : List Frame} {meth : Method} {c : Code} {H : Heap} {locs : List Loc} {cells slots : Nat}
variable {A : Nat → Prop} {Rt : Option Value → State → Prop} {Q : State → Prop}
theorem cy_ret {g : JFrame} (hc : cells ≤ 1) (hs : slots ≤ 6) (k : W p l e R s m args below meth c H locs cells slots (MQ below (fun _ st o t => va_F A st t ∧ ∃ v, o = .returned v ∧ Rt v t) args s cells slots A) g) : W p l e R s m args below meth c H locs cells slots (cy_E below A Rt args s) g := by
  intro T hT X
  obtain ⟨t, a1, o, b1, b2, ⟨hF, v, rfl, hR⟩, L, ⟨-, hW, hS⟩, hf⟩ := k T hT X
  exact ⟨t, a1, _, b1, b2, hF, hW, L, hf, v, rfl, hR, hS.mono hc hs⟩
/-- an exception that a row behind others takes -/
theorem cx_catch {pc : Nat} {ls : Array Slot} {rest : List Value} {own : String} {ce : Cell} {q : Addr} (hown : s.vm.findClass own = some m.cls) (hcell : H[q]? = some ce) (hv : ce.vm = .none)
    (pre : List ExceptionTableEntry) (x : ExceptionTableEntry) (post : List ExceptionTableEntry) (hsplit : c.exceptionTable.toList = pre ++ x :: post)
    {E name : String} (hcl : s.vm.findClass E = some ce.cls) (hcast : (Cond.castable E name).before args s = true) (h0 : x.catchType ≠ 0) (hlink : (Cond.classLink own x.catchType name).before args s = true) (hx : covers x pc = true)
    (hpass : ∀ y ∈ pre, ∃ ny, y.catchType ≠ 0 ∧ (Cond.classLink own y.catchType ny).before args s = true ∧ (Cond.not (.castable E ny)).before args s = true)
    (k : W p l e R s m args below meth c H locs cells slots Q (F0 m x.handlerPc ls [.ref q])) : cx_W p l e R s m args below meth c H locs cells slots Q (F0 m pc ls rest) q := by
  intro T hT X
  obtain ⟨cE, cT, h1, h2, h3⟩ := Cond.castable_spec hcast
  cases hcl.symm.trans h1
  obtain ⟨hend, hk0⟩ := X.catches_of_link hown h0 hlink h2 h3
  have hpl : e.platform.magicAccessors = ({} : Platform).magicAccessors := by rw [X.admits.platform]
  obtain ⟨vm', XV, st⟩ := X.caughtThrough q (g := F0 m pc ls rest) rfl (cell := ce) (by rw [hT]; exact hcell) (by rw [hv]; rfl) hk0 pre x post hsplit
    (fun y hy => by
      obtain ⟨ny, y0, y1, y2⟩ := hpass y hy
      exact RowPassed.of_words hpl hown y0 y1 hcl y2) hx hend
  obtain ⟨t, a1, b1⟩ := k (T.setVm vm') hT XV
  refine ⟨t, ?_, b1⟩
  rw [X.pushThrowing_eq]
  exact st _ a1
end CYends
section CYcall
variable {p : Program} {l : Launch} {e : Env} {R : Room} {s : State} {m : MethodId} {args : Array Value} {below : List Frame} {meth : Method} {c : Code} {U : State} {locs : List Loc} {cells slots : Nat}
variable {y : MethodName} {w0 : Cond} {maxL fr lo : Nat} {A : Nat → Prop} {As : List Value} {Pre : State → Prop} {Rt : Option Value → State → Prop}
theorem cy_inv (hM : cy_M l y w0 fr lo A As Pre Rt) (X : Stand p l e R s m args below meth c U locs cells slots)
    {g : JFrame} {ig : Instr} {len : Nat} (hg : g.method = m) (hsize : g.locals.size = c.maxLocals) (hdg : decode c.code g.pc = .ok (ig, len))
    (hW : 2 * g.monitorRoom + (g.stack.map fun v => v.category).sum ≤ 8) {mk : MethodId} (hn : U.methodNamed? y = some mk)
    (hcode : ∃ methY cY, U.vm.method? mk = some methY ∧ methY.code = some cY ∧ cY.maxLocals = maxL) (hw0 : w0.before As.toArray U = true) (hini : (Cond.initialized y.cls).before As.toArray U = true)
    (hP : Pre (U.calling g mk As.toArray)) (hfr : fr + 1 ≤ R.frames) (hlo : 8 + (maxL + 11) + lo ≤ R.locals) (hc : cells + 1 ≤ R.cells) (hs : slots + 6 ≤ R.slots) :
    ∃ (t T' : State) (L : List Loc), T'.heap = t.heap ∧ T'.vm = t.vm ∧ (∀ z ∈ L, A z.base) ∧ va_F A (U.calling g mk As.toArray) t ∧
      ∃ v, Stand p l e R s m args below meth c T' (locs ++ L) (cells + 1) (slots + 6) ∧ Rt v t ∧ Steps p.tables e below (doInvoke e (U.setTop g) [] mk As.toArray).1 (T'.setTop { g with pc := g.pc + len, stack := v.toList ++ g.stack }) := by
  obtain ⟨methY, cY, hmY, hcY, hlY⟩ := hcode
  obtain ⟨kY, hkY, -⟩ := className_of_methodNamed hn
  have hinitY : kY.init = .initialized := Cond.initialized_spec (findClass_of_methodNamed hn) hkY hini
  have h : At U g.method c below := by rw [hg]; exact X.here
  have h1 : (headSpec [w0] (cx_room fr lo)).pre.before As.toArray U = true := atoms_intro fun w hw => by rw [List.mem_singleton.mp hw]; exact hw0
  have happ : (headSpec [w0] (cx_room fr lo)).appliesLoose y e.platform (U.calling g mk As.toArray) = true :=
    Spec.appliesLoose_calling (g := g) h hdg hn hkY hinitY
      (X.room_calling (g := g) (R' := cx_room fr lo) hsize hmY hcY hfr (by rw [hlY]; show _ + lo ≤ _; omega) hc hs) h1
  obtain ⟨mid, hmid⟩ := h.above
  have hfr9 : (U.setTop g).frames = (.java g :: mid) ++ below := by rw [State.frames_setTop' g h.top, hmid]; rfl
  obtain ⟨o, s₂, hsteps, -, hend, hq⟩ := Steps.callFree hM p X.admits X.cas X.clock (acts := []) hfr9 happ ⟨rfl, hP⟩ trivial
  have hq' : cy_Q A Rt As.toArray (U.calling g mk As.toArray) o s₂ := hq
  rw [State.frames_setTop' g h.top] at hend
  obtain ⟨g₀, hg0⟩ := Option.isSome_iff_exists.mp h.top
  obtain ⟨r, hr⟩ := State.topJava?_eq_some.mp hg0
  have hr' : (({ U with heap := s₂.heap, slotsUsed := s₂.slotsUsed } : State).setVm s₂.vm).frames = .java g₀ :: r := hr
  obtain ⟨hF, hW₂, L, hL, v, rfl, hR, hsm⟩ := hq'
  have hW' : U.WarmedH s₂.vm := hW₂
  obtain ⟨e2, q2, q3, q4, q5, q6⟩ := hsm
  have e3 : s₂ = ({ (U.calling g mk As.toArray).setFrames s₂.frames with heap := s₂.heap, slotsUsed := s₂.slotsUsed } : State).setVm s₂.vm := by
    have : s₂ = ({ s₂ with vm := (U.calling g mk As.toArray).vm } : State).setVm s₂.vm := rfl
    rw [e2] at this
    exact this
  have hsame : U.sameButNew ({ U with heap := s₂.heap, slotsUsed := s₂.slotsUsed } : State) L 1 6 := by
    refine ⟨?_, q2, q3, q4, q5, q6⟩
    obtain ⟨t, ht, -⟩ := State.frames_cons hr
    show ({ U with heap := s₂.heap, slotsUsed := s₂.slotsUsed } : State) = { U.setFrames U.frames with heap := s₂.heap, slotsUsed := s₂.slotsUsed }
    rw [State.setFrames_self ht]
  have XS : Stand p l e R s m args below meth c (({ U with heap := s₂.heap, slotsUsed := s₂.slotsUsed } : State).setVm s₂.vm) (locs ++ L) (cells + 1) (slots + 6) :=
    ⟨X.admits, X.cas, X.clock, X.frames, X.room, X.hears, X.method, X.code, (X.here.setHeapUsed s₂.heap s₂.slotsUsed).setVm hW'.alike, X.tail, State.WarmedH.trans X.warmed hW', X.limits, X.bytes, X.same.trans (hsame.setVm s.vm)⟩
  subst hg
  refine ⟨s₂, ({ U with heap := s₂.heap, slotsUsed := s₂.slotsUsed } : State).setVm s₂.vm, L, rfl, rfl, hL, hF, ?_⟩
  obtain ⟨c₂, i₂, len₂, hc₂, hd₂, hf₂⟩ := hend
  have hcc : c₂ = c := by
    have h1 : s₂.code? g.method = U.code? g.method := by
      rw [State.code?_eq, State.code?_eq, hW'.alike.method?]
    exact Option.some.inj (hc₂.symm.trans (h1.trans h.code))
  subst hcc
  have hlen : len₂ = len := by rw [hdg] at hd₂; cases hd₂; rfl
  subst hlen
  have hs₂ : s₂ = (({ U with heap := s₂.heap, slotsUsed := s₂.slotsUsed } : State).setVm s₂.vm).setTop { g with pc := g.pc + len₂, stack := v.toList ++ g.stack } := by
    refine e3.trans ?_
    rw [hf₂, State.calling_eq h.top, State.setFrames_setFrames, State.setTop_of_frames _ hr', hr]
    rfl
  refine ⟨v, XS, hR, ?_⟩
  rw [← hs₂]
  exact hsteps
end CYcall
section CYrows
variable {p : Program} {l : Launch} {e : Env} {R : Room} {s : State} {m : MethodId} {args : Array Value} {below : List Frame} {meth : Method} {c : Code} {H : Heap} {locs : List Loc} {cells slots : Nat} {Q : State → Prop}
variable {y : MethodName} {bytes cc : ByteArray} {maxL fr lo nL index pc : Nat} {ret : Option FieldType} {A : Nat → Prop} {As rest : List Value} {Pre : State → Prop} {Rt : Option Value → State → Prop} {own : String} {ls : Array Slot} {H0 : Heap} {hs : List (Nat × Nat × Nat × Nat)}
theorem cy_S {A0 : Nat → Prop} (S : CallFix p m c cc nL s args [] own) (hM : cy_M l y (.codeWith y bytes maxL ret hs) fr lo A As Pre Rt)
    (hlink : (Cond.methodLink own index y).before args s = true) (hst : (Cond.static y).before args s = true) (hcode : (Cond.codeWith y bytes maxL ret hs).before args s = true) (hini : (Cond.initialized y.cls).before args s = true)
    {n : Nat} (hn : As.length = n) (hy : y.cls ≠ "java/lang/invoke/MethodHandle" ∧ y.cls ≠ "java/lang/invoke/VarHandle" ∧ (parseMethodDescriptor y.desc).map (fun d => d.parameters.length) = some n)
    (hpre : ∀ U : State, U.heap = H → s.WarmedH U.vm → Pre U) (hR : fr + 1 ≤ R.frames ∧ 8 + (maxL + 11) + lo ≤ R.locals) (hf : cells + 1 ≤ R.cells ∧ slots + 6 ≤ R.slots)
    (hsz : ls.size = nL) (hW : (rest.map fun v => v.category).sum ≤ 8) (hdg : decode cc pc = .ok (.invokestatic index, 3)) (hA : ∀ q, A q → A0 q) (hS : va_S A0 H0 H locs)
    (kk : ∀ (v : Option Value) (t : State) (H1 : Heap) (locs1 : List Loc), t.heap = H1 → Rt v t → H.size ≤ H1.size → (∀ q : Nat, q < H.size → ¬ A q → H1[q]? = H[q]?) → va_S A0 H0 H1 locs1 → W p l e R s m args below meth c H1 locs1 (cells + 1) (slots + 6) Q (F0 m (pc + 3) ls (v.toList ++ rest))) :
    W p l e R s m args below meth c H locs cells slots Q (F0 m pc ls (As.reverse ++ rest)) := by
  intro T hT X
  obtain ⟨hx, hb, hml, hown, -⟩ := S
  obtain ⟨mk, methM, cM, hnamed, hmethM, -, -, -, -, -, -, hsigM⟩ := Cond.codeWith_spec hcode
  have hstatic : methM.isStatic = true := Cond.static_spec hnamed hmethM hst
  obtain ⟨kP, hkP, -⟩ := className_of_methodNamed hnamed
  have hinitP : kP.init = .initialized := Cond.initialized_spec (findClass_of_methodNamed hnamed) hkP hini
  obtain ⟨vm₁, X₁, hstep₁⟩ := X.invokestatic hx hown hlink hnamed hmethM hstatic hkP hinitP ⟨hy.1, hy.2.1⟩ (g := F0 m pc ls (As.reverse ++ rest)) rfl (argsL := As) (rest := rest) (hn.trans (cx_len hy.2.2 hsigM)) rfl (by rw [hb]; exact hdg)
  have hcU : (Cond.codeWith y bytes maxL ret hs).before As.toArray (T.setVm vm₁) = true := word_at X₁.warmed (Or.inl (by first | rfl | simp [Cond.onTables, Cond.keeps, Cond.steady])) hcode
  have hiU : (Cond.initialized y.cls).before As.toArray (T.setVm vm₁) = true := word_at X₁.warmed (Or.inl (by first | rfl | simp [Cond.onTables, Cond.keeps, Cond.steady])) hini
  obtain ⟨mY, methY, cY, hnY, hmY, hcY, -, hlY, -⟩ := Cond.codeWith_spec hcU
  cases (X₁.named hnamed).symm.trans hnY
  have hWs : 2 * (F0 m pc ls rest).monitorRoom + ((F0 m pc ls rest).stack.map fun v => v.category).sum ≤ 8 := lv_room hW
  obtain ⟨t, T', L, e1, e2, hL, hF, v, XS, hRt, st⟩ := cy_inv hM X₁ (g := F0 m pc ls rest) rfl (hsz.trans hml.symm) (by rw [hb]; exact hdg) hWs (X₁.named hnamed) ⟨methY, cY, hmY, hcY, hlY⟩ hcU hiU
    (hpre _ hT X₁.warmed) hR.1 hR.2 hf.1 hf.2
  obtain ⟨hz1, hk1, hS1⟩ := cx_keep (st₀ := (T.setVm vm₁).calling (F0 m pc ls rest) mk As.toArray) hT e1 hA hS hL hF
  obtain ⟨t2, a1, b1⟩ := kk v t T'.heap (locs ++ L) e1.symm hRt hz1 hk1 hS1 T' rfl XS
  exact ⟨t2, hstep₁ _ fun acts => by rw [doInvoke_state]; exact st.trans a1, b1⟩
end CYrows
/-! words that say what cannot be cast -/
section Nots
theorem notc {U s : State} {args : Array Value} {a b : String} (h1 : (Cond.not (.castable a b)).before #[] U = true) (hW : U.vm.Alike s.vm) : (Cond.not (.castable a b)).before args s = true := by
  have h2 := Cond.holds_not_iff.mp h1
  refine Cond.holds_not_iff.mpr ?_
  simp only [Cond.value] at h2 ⊢
  rw [hW.findClass, hW.findClass]
  simpa [hW.assignable] using h2
/-- which of the four exceptions are no subclasses of which -/
def Tno (U : State) : Prop := (Cond.not (.castable "java/lang/IllegalStateException" "java/lang/IllegalArgumentException")).before #[] U = true ∧ (Cond.not (.castable "java/lang/IndexOutOfBoundsException" "java/lang/IllegalArgumentException")).before #[] U = true ∧ (Cond.not (.castable "java/lang/IndexOutOfBoundsException" "java/lang/IllegalStateException")).before #[] U = true ∧
  (Cond.not (.castable "java/lang/ArithmeticException" "java/lang/IllegalArgumentException")).before #[] U = true ∧ (Cond.not (.castable "java/lang/ArithmeticException" "java/lang/IllegalStateException")).before #[] U = true ∧ (Cond.not (.castable "java/lang/ArithmeticException" "java/lang/IndexOutOfBoundsException")).before #[] U = true
end Nots
