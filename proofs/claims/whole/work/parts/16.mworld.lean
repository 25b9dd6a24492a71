/-! THE WORLD OF THE REFERENCE. scalars: 0 place, 1 stopped, 2 done, 3 began, 4 divider, 5 memoryFree, 6 wrong, 7 groupsMissed, 8 linesMissed, 9 clock, 10 wrongJumps, 11 thrown
int arrays: 0 whole, 1 ready, 2 group, 3 line, 4 used, 5 counter, 6 op, 7 d, 8 a, 9 b, 10 n, 11 height, 12 order, 13 kept, 14 placed; double arrays: 0 memory, 1 fraction -/
section MWorld
abbrev MS : Type := (Nat → Int32) × (Nat → Nat → Int32) × (Nat → Nat → UInt64)
def mI (τ : MS) (k : Nat) : Int32 := τ.1 k
def mJ (τ : MS) (k : Nat) : Nat → Int32 := τ.2.1 k
def mF (τ : MS) (k : Nat) : Nat → UInt64 := τ.2.2 k
def tI (τ : MS) (k : Nat) (v : Int32) : MS := (va_up τ.1 k v, τ.2)
def tJ (τ : MS) (k : Nat) (f : Nat → Int32) : MS := (τ.1, va_up τ.2.1 k f, τ.2.2)
def tF (τ : MS) (k : Nat) (f : Nat → UInt64) : MS := (τ.1, τ.2.1, va_up τ.2.2 k f)
theorem mJ_tI (τ : MS) (k : Nat) (v : Int32) : mJ (tI τ k v) = mJ τ := rfl
theorem mF_tI (τ : MS) (k : Nat) (v : Int32) : mF (tI τ k v) = mF τ := rfl
theorem mI_tJ (τ : MS) (k : Nat) (f : Nat → Int32) : mI (tJ τ k f) = mI τ := rfl
theorem mF_tJ (τ : MS) (k : Nat) (f : Nat → Int32) : mF (tJ τ k f) = mF τ := rfl
theorem mI_tF (τ : MS) (k : Nat) (f : Nat → UInt64) : mI (tF τ k f) = mI τ := rfl
theorem mJ_tF (τ : MS) (k : Nat) (f : Nat → UInt64) : mJ (tF τ k f) = mJ τ := rfl
theorem mI_tI (τ : MS) (k : Nat) (v : Int32) (j : Nat) : mI (tI τ k v) j = if j = k then v else mI τ j := rfl
theorem mJ_tJ (τ : MS) (k : Nat) (f : Nat → Int32) (j : Nat) : mJ (tJ τ k f) j = if j = k then f else mJ τ j := rfl
theorem mF_tF (τ : MS) (k : Nat) (f : Nat → UInt64) (j : Nat) : mF (tF τ k f) j = if j = k then f else mF τ j := rfl
abbrev mw (G : GT) (τ : MS) : va_W := [
  (gad G 20, .inr (7, [.ref (gad G 21), .ref (gad G 22), .ref (gad G 23), .ref (gad G 24), .ref (gad G 25), .ref (gad G 26), .ref (gad G 27), .ref (gad G 28), .ref (gad G 29), .ref (gad G 30), .ref (gad G 31), .ref (gad G 32), .ref (gad G 33), .ref (gad G 34), .ref (gad G 35), .ref (gad G 36), .ref (gad G 37), .int (mI τ 0), .int (mI τ 2), .int (mI τ 3), .int (mI τ 7), .int (mI τ 8), .int (mI τ 10), .int (mI τ 4), .int (mI τ 5), .int (mI τ 9), .int (mI τ 11), .int (mI τ 1), .int (mI τ 6)])),
  (gad G 21, .inl (gk G 0, 24, aI (mJ τ 6))),
  (gad G 22, .inl (gk G 0, 24, aI (mJ τ 7))),
  (gad G 23, .inl (gk G 0, 24, aI (mJ τ 8))),
  (gad G 24, .inl (gk G 0, 24, aI (mJ τ 9))),
  (gad G 25, .inl (gk G 0, 24, aI (mJ τ 10))),
  (gad G 26, .inl (gk G 0, 8, aI (mJ τ 0))),
  (gad G 27, .inl (gk G 0, 12, aI (mJ τ 1))),
  (gad G 28, .inl (gk G 0, 2, aI (mJ τ 2))),
  (gad G 29, .inl (gk G 0, 4, aI (mJ τ 3))),
  (gad G 30, .inl (gk G 0, 4, aI (mJ τ 4))),
  (gad G 31, .inl (gk G 0, 8, aI (mJ τ 5))),
  (gad G 32, .inl (gk G 1, 4, aD (mF τ 1))),
  (gad G 33, .inl (gk G 1, 48, aD (mF τ 0))),
  (gad G 34, .inl (gk G 0, 24, aI (mJ τ 11))),
  (gad G 35, .inl (gk G 0, 24, aI (mJ τ 12))),
  (gad G 36, .inl (gk G 0, 120, aI (mJ τ 13))),
  (gad G 37, .inl (gk G 2, 24, aI (mJ τ 14)))]
def MOK (_l : Launch) (G : GT) : Prop := Tb (gS G) ∧ va_K (gD G) classes (tys G) (gS G) ∧ (∀ q, gA G q → (gS G).heap.size ≤ q) ∧ (∀ τ, va_D (gA G) (mw G τ))
def Mw (G : GT) (τ : MS) (U : State) : Prop := Ow (gS G) U ∧ (∀ q, U.heap.size ≤ q → gA G q) ∧ va_P (gD G) classes (mw G τ) U.heap
variable {l : Launch} {G : GT} {τ τ' : MS} {s : State} {H : Heap} {locs : List Loc}
theorem MOK.tb (g : MOK l G) (h : Mw G τ s) : Tb s := g.1.warm h.1.1
theorem MOK.k (g : MOK l G) (h : Mw G τ s) : va_K (gD G) classes (tys G) s := va_K.moved h.1.1.alike g.2.1
theorem MOK.d (g : MOK l G) : va_D (gA G) (mw G τ) := g.2.2.2 τ
theorem Mw.at (h : Mw G τ s) (g : MOK l G) (hS : va_S (gA G) s.heap H locs) (hP : va_P (gD G) classes (mw G τ') H) : ∀ U : State, U.heap = H → s.WarmedH U.vm → Mw G τ' U := fun U hU hW =>
  ⟨h.1.to g.2.2.1 hS hU hW, fun q hq => h.2.1 q (Nat.le_trans hS.1 (by rw [← hU]; exact hq)), by rw [hU]; exact hP⟩
def Mi (G : GT) (P : Int32 → MS → Prop) : Option Value → State → Prop := fun v t => ∃ (r : Int32) (u : MS), v = some (.int r) ∧ P r u ∧ va_P (gD G) classes (mw G u) t.heap
def Md (G : GT) (P : UInt64 → MS → Prop) : Option Value → State → Prop := fun v t => ∃ (r : UInt64) (u : MS), v = some (.double r) ∧ P r u ∧ va_P (gD G) classes (mw G u) t.heap
def Mv (G : GT) (P : MS → Prop) : Option Value → State → Prop := fun v t => ∃ u : MS, v = none ∧ P u ∧ va_P (gD G) classes (mw G u) t.heap
end MWorld
section MEnds
variable {p : Program} {l : Launch} {e : Env} {R : Room} {s : State} {m : MethodId} {args : Array Value} {below : List Frame} {meth : Method} {c : Code} {H : Heap} {locs : List Loc} {G : GT} {u : MS} {Tx : String → State → Prop} {cc : ByteArray} {pc : Nat} {ls : Array Slot}
theorem mend_i {P : Int32 → MS → Prop} {r : Int32} (hx : p.tables.exec = Jvm.exec) (hb : c.code = cc) (hr : meth.sig.returnType = some .int) (hlocks : meth.locks = false) (hS : va_S (gA G) s.heap H locs) (hP : va_P (gD G) classes (mw G u) H) (d : decode cc pc = .ok (.ireturn, 1)) (h : P r u) :
    W p l e R s m args below meth c H locs 0 0 (cx_E below (gA G) (Mi G P) Tx args s) (F0 m pc ls [.int r]) :=
  cx_ret (W.iret (v := r) hx hb hr (fun t ht _ => ⟨hS.F ht, _, rfl, r, u, rfl, h, by rw [ht]; exact hP⟩) hS.2.2 d hlocks)
theorem mend_z {P : Int32 → MS → Prop} {r : Int32} (hx : p.tables.exec = Jvm.exec) (hb : c.code = cc) (hr : meth.sig.returnType = some .boolean) (hlocks : meth.locks = false) (hS : va_S (gA G) s.heap H locs) (hP : va_P (gD G) classes (mw G u) H) (d : decode cc pc = .ok (.ireturn, 1)) (hn : narrow .boolean (.int r) = .int r) (h : P r u) :
    W p l e R s m args below meth c H locs 0 0 (cx_E below (gA G) (Mi G P) Tx args s) (F0 m pc ls [.int r]) :=
  cx_ret (W.zret (v := r) hx hb hr hn (fun t ht _ => ⟨hS.F ht, _, rfl, r, u, rfl, h, by rw [ht]; exact hP⟩) hS.2.2 d hlocks)
theorem mend_d {P : UInt64 → MS → Prop} {r : UInt64} (hx : p.tables.exec = Jvm.exec) (hb : c.code = cc) (hr : meth.sig.returnType = some .double) (hlocks : meth.locks = false) (hS : va_S (gA G) s.heap H locs) (hP : va_P (gD G) classes (mw G u) H) (d : decode cc pc = .ok (.dreturn, 1)) (h : P r u) :
    W p l e R s m args below meth c H locs 0 0 (cx_E below (gA G) (Md G P) Tx args s) (F0 m pc ls [.double r]) :=
  cx_ret (W.dret (v := r) hx hb hr (fun t ht _ => ⟨hS.F ht, _, rfl, r, u, rfl, h, by rw [ht]; exact hP⟩) hS.2.2 d hlocks)
theorem mend_v {P : MS → Prop} (hx : p.tables.exec = Jvm.exec) (hb : c.code = cc) (hr : meth.sig.returnType = none) (hlocks : meth.locks = false) (hS : va_S (gA G) s.heap H locs) (hP : va_P (gD G) classes (mw G u) H) (d : decode cc pc = .ok (.return_, 1)) (h : P u) :
    W p l e R s m args below meth c H locs 0 0 (cx_E below (gA G) (Mv G P) Tx args s) (F0 m pc ls []) :=
  cx_ret (W.vret hx hb hr (fun t ht _ => ⟨hS.F ht, _, rfl, u, rfl, h, by rw [ht]; exact hP⟩) hS.2.2 d hlocks)
end MEnds
/-- what is known in the body of a method of the reference -/
def Mx (l : Launch) (G : GT) (p : Program) (s : State) (m : MethodId) (meth : Method) (c : Code) (cc : ByteArray) (nL : Nat) (ret : Option FieldType) (own : String) : Prop :=
  p.tables.exec = Jvm.exec ∧ c.code = cc ∧ c.maxLocals = nL ∧ meth.sig.returnType = ret ∧ s.vm.findClass own = some m.cls ∧ meth.locks = false ∧ (∀ x ∈ c.exceptionTable.toList, False) ∧ MOK l G ∧ ∃ τ, Mw G τ s

