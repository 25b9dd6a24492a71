/-! THE WORLD OF THE CLASS: its cells over fixed addresses, as a function of the pure state -/
section World
/-- what is fixed: the law's start, the addresses that may be written, the addresses of the objects and of the 24 instructions, the array classes, the classes' numbers and slots, the static tables' addresses -/
abbrev GT : Type := State × (Nat → Prop) × (Nat → Nat) × (Nat → Nat) × (Nat → ClassId) × va_G × (Nat → Nat)
def gS (G : GT) : State := G.1
def gA (G : GT) : Nat → Prop := G.2.1
def gad (G : GT) : Nat → Nat := G.2.2.1
def gia (G : GT) : Nat → Nat := G.2.2.2.1
def gk (G : GT) : Nat → ClassId := G.2.2.2.2.1
def gD (G : GT) : va_G := G.2.2.2.2.2.1
def gt (G : GT) : Nat → Nat := G.2.2.2.2.2.2
abbrev tys (G : GT) : List (ClassId × FieldType) := [(gk G 0, .int), (gk G 1, .double), (gk G 2, .boolean), (gk G 3, .object R_In), (gk G 4, .long)]
def insR (G : GT) (k : Nat) : Option Nat := if k < 24 then some (gia G k) else none
abbrev aI (f : Nat → Int32) : (Nat → Int32) ⊕ (Nat → Int64) ⊕ (Nat → UInt32) ⊕ (Nat → UInt64) ⊕ (Nat → Option Nat) := .inl f
abbrev aD (f : Nat → UInt64) : (Nat → Int32) ⊕ (Nat → Int64) ⊕ (Nat → UInt32) ⊕ (Nat → UInt64) ⊕ (Nat → Option Nat) := .inr (.inr (.inr (.inl f)))
abbrev aQ (f : Nat → Option Nat) : (Nat → Int32) ⊕ (Nat → Int64) ⊕ (Nat → UInt32) ⊕ (Nat → UInt64) ⊕ (Nat → Option Nat) := .inr (.inr (.inr (.inr f)))
abbrev insF (q : Nat → Int32) : List Value := [.int (q 0), .int (q 1), .int (q 2), .int (q 3), .int (q 4), .int (q 5), .int (q 6), .int (q 7)]
abbrev cw1 (G : GT) (σ : CS) : va_W := [
  (gad G 0, .inr (6, [.ref (gad G 1), .ref (gad G 2), .ref (gad G 3), .ref (gad G 4), .ref (gad G 5), .ref (gad G 7), .ref (gad G 9), .ref (gad G 12), .ref (gad G 14), .int (cI σ 0), .int (cI σ 1), .int (cI σ 2)])),
  (gad G 1, .inl (gk G 3, 24, aQ (fun i => insR G (cP σ 0 i)))),
  (gad G 2, .inl (gk G 1, 48, aD (cF σ 0))),
  (gad G 3, .inl (gk G 0, 8, aI (cJ σ 0))),
  (gad G 4, .inl (gk G 1, 4, aD (cF σ 1))),
  (gad G 5, .inr (0, [.ref (gad G 6), .int (cI σ 3), .int (cI σ 4), .int (cI σ 5), .int (cI σ 6)])),
  (gad G 6, .inl (gk G 0, 12, aI (cJ σ 1))),
  (gad G 7, .inr (1, [.int (cI σ 7), .ref (gad G 8)])),
  (gad G 8, .inl (gk G 0, 2, aI (cJ σ 2))),
  (gad G 9, .inr (2, [.int (cI σ 8), .ref (gad G 10), .ref (gad G 11), .int (cI σ 9)])),
  (gad G 10, .inl (gk G 0, 4, aI (cJ σ 3))),
  (gad G 11, .inl (gk G 0, 4, aI (cJ σ 4))),
  (gad G 12, .inr (4, [.int (cI σ 10), .ref (gad G 13)])),
  (gad G 13, .inl (gk G 0, 8, aI (cJ σ 5))),
  (gad G 14, .inr (5, [.ref (gad G 15), .ref (gad G 16), .ref (gad G 17), .ref (gad G 18)])),
  (gad G 15, .inl (gk G 3, 24, aQ (fun i => insR G (cP σ 1 i)))),
  (gad G 16, .inl (gk G 2, 24, aI (cJ σ 6))),
  (gad G 17, .inl (gk G 0, 24, aI (cJ σ 7))),
  (gad G 18, .inl (gk G 0, 24, aI (cJ σ 8)))]
def cwi (G : GT) (σ : CS) : va_W := (List.range 24).map (fun i => (gia G i, .inr (3, insF (cQ σ i))))
abbrev cw (G : GT) (σ : CS) : va_W := cw1 G σ ++ cwi G σ
theorem cw_in {G : GT} {σ : CS} {i : Nat} (h : i < 24) : (cw G σ)[19 + i]? = some (gia G i, .inr (3, insF (cQ σ i))) := by
  rw [List.getElem?_append_right (show (cw1 G σ).length ≤ 19 + i from Nat.le_add_right 19 i)]
  show (cwi G σ)[19 + i - 19]? = _
  rw [Nat.add_sub_cancel_left]
  simp [cwi, h]
/-- the premises on what is fixed -/
def GOK (l : Launch) (G : GT) : Prop :=
  l.stackTraces = false ∧ Tb (gS G) ∧ va_K (gD G) classes (tys G) (gS G) ∧ (∀ q, gA G q → (gS G).heap.size ≤ q) ∧ (∀ σ, va_D (gA G) (cw G σ)) ∧
  (va_Z "PipeComputer" "LATENCY" "[I" (.ref (gt G 0)) (gA G) (gS G) (gS G).heap ∧ va_T .int (gt G 0) 20 (fun j => .int (latT j)) (gA G) (gS G) (gS G).heap) ∧
  (va_Z "PipeComputer" "WRITTEN_D" "[I" (.ref (gt G 1)) (gA G) (gS G) (gS G).heap ∧ va_T .int (gt G 1) 20 (fun j => .int (wrdT j)) (gA G) (gS G) (gS G).heap) ∧
  (va_Z "PipeComputer" "READ_A" "[I" (.ref (gt G 2)) (gA G) (gS G) (gS G).heap ∧ va_T .int (gt G 2) 20 (fun j => .int (rdaT j)) (gA G) (gS G) (gS G).heap) ∧
  (va_Z "PipeComputer" "READ_B" "[I" (.ref (gt G 3)) (gA G) (gS G) (gS G).heap ∧ va_T .int (gt G 3) 20 (fun j => .int (rdbT j)) (gA G) (gS G) (gS G).heap) ∧
  (∀ (U : State) (args : Array Value), Ow (gS G) U → (Cond.isRef (.static Bundle.tN "UNASSIGNED_STACK" Bundle.steD)).before args U = true ∧ (Cond.isRef (.static Bundle.tN "SUPPRESSED_SENTINEL" Bundle.listD)).before args U = true ∧
    (Cond.laysStatic Bundle.tN "UNASSIGNED_STACK" Bundle.steD).before args U = true ∧ (Cond.laysStatic Bundle.tN "SUPPRESSED_SENTINEL" Bundle.listD).before args U = true)
/-- the class's world holds in U -/
def Cw (G : GT) (σ : CS) (U : State) : Prop := Ow (gS G) U ∧ (∀ q, U.heap.size ≤ q → gA G q) ∧ va_P (gD G) classes (cw G σ) U.heap
variable {l : Launch} {G : GT} {σ σ' : CS} {s : State} {H : Heap} {locs : List Loc}
theorem GOK.tb (g : GOK l G) (h : Cw G σ s) : Tb s := g.2.1.warm h.1.1
theorem GOK.k (g : GOK l G) (h : Cw G σ s) : va_K (gD G) classes (tys G) s := va_K.moved h.1.1.alike g.2.2.1
theorem GOK.d (g : GOK l G) : va_D (gA G) (cw G σ) := g.2.2.2.2.1 σ
theorem GOK.zt {n : String} {t N : Nat} {f : Nat → Value} (h : Cw G σ s) (z : va_Z "PipeComputer" n "[I" (.ref t) (gA G) (gS G) (gS G).heap ∧ va_T .int t N f (gA G) (gS G) (gS G).heap) :
    va_Z "PipeComputer" n "[I" (.ref t) (gA G) s s.heap ∧ va_T .int t N f (gA G) s s.heap :=
  ⟨va_Z.kept (va_Z.moved h.1.1.alike z.1) (fun a ha _ => h.1.2.2 a ha), va_T.kept (va_T.moved h.1.1.alike z.2) (fun a ha _ => h.1.2.2 a ha)⟩
theorem Cw.at (h : Cw G σ s) (g : GOK l G) (hS : va_S (gA G) s.heap H locs) (hP : va_P (gD G) classes (cw G σ') H) : ∀ U : State, U.heap = H → s.WarmedH U.vm → Cw G σ' U := fun U hU hW =>
  ⟨h.1.to g.2.2.2.1 hS hU hW, fun q hq => h.2.1 q (Nat.le_trans hS.1 (by rw [← hU]; exact hq)), by rw [hU]; exact hP⟩
/-- what a method gives back: an int, a double, nothing; and the world -/
def Ri (G : GT) (P : Int32 → CS → Prop) : Option Value → State → Prop := fun v t => ∃ (r : Int32) (u : CS), v = some (.int r) ∧ P r u ∧ va_P (gD G) classes (cw G u) t.heap
def Rd (G : GT) (P : UInt64 → CS → Prop) : Option Value → State → Prop := fun v t => ∃ (r : UInt64) (u : CS), v = some (.double r) ∧ P r u ∧ va_P (gD G) classes (cw G u) t.heap
def Rv (G : GT) (P : CS → Prop) : Option Value → State → Prop := fun v t => ∃ u : CS, v = none ∧ P u ∧ va_P (gD G) classes (cw G u) t.heap
def Tn : String → State → Prop := fun _ _ => False
def Tw (G : GT) (P : String → CS → Prop) : String → State → Prop := fun E t => ∃ u : CS, P E u ∧ va_P (gD G) classes (cw G u) t.heap
theorem Tw.i {P : String → CS → Prop} {E : String} {u : CS} {t : State} (h : P E u) (hP : va_P (gD G) classes (cw G u) t.heap) : Tw G P E t := ⟨u, h, hP⟩
theorem va_P.keep {D : va_G} {cl : List vw_C} {ws : va_W} {H H1 : Heap} (h : va_P D cl ws H) (hk : ∀ q : Nat, q < H.size → H1[q]? = H[q]?) : va_P D cl ws H1 := h.kept (fun k q hq => hk q.1 (h k q hq).lt)
theorem m4_in {x : Int32} (h : vp_in x 8) : vp_in (x - x / 4 * 4) 4 := by
  obtain ⟨j, hj, rfl⟩ := vp_in_of h (by decide)
  have : ∀ j, j < 8 → vp_in (nI j - nI j / 4 * 4) 4 := by unfold vp_in; decide
  exact this j hj
theorem badR_in {n g : Int32} {k : Nat} (hg : g.toInt + 1 = k) (h : badR n g = false) : vp_in n k := by
  unfold badR at h
  rw [vp_in_iff]
  split at h
  · cases h
  · rename_i h1
    split at h
    · rename_i h2
      rw [Int32.lt_iff_toInt_lt] at h1
      rw [Int32.le_iff_toInt_le] at h2
      rw [Int32.toInt_zero] at h1
      omega
    · cases h
theorem nb_b (b : Bool) : narrow .boolean (.int (b2i b)) = .int (b2i b) := by cases b <;> rfl
theorem fb_b (b : Bool) : fits .boolean (.int (b2i b)) = true := by cases b <;> rfl
theorem b2i0 {b : Bool} (h : b2i b = 0) : b = false := by cases b; rfl; exact absurd h (by decide)
theorem b2i1 {b : Bool} (h : ¬ b2i b = 0) : b = true := by cases b; exact absurd rfl h; rfl
end World
section WRows
variable {p : Program} {l : Launch} {e : Env} {R : Room} {s : State} {m : MethodId} {args : Array Value} {below : List Frame} {meth : Method} {c : Code} {H : Heap} {locs : List Loc} {cells slots : Nat} {Q : State → Prop}
variable {cc : ByteArray} {pc : Nat} {ls : Array Slot} {rest : List Value} {D : va_G} {cl : List vw_C} {tys : List (ClassId × FieldType)} {ws : va_W} {a : Nat} {A : Nat → Prop} {H0 : Heap}
/-- a reference out of an array, known not to be null -/
theorem ald_r (hexec : p.tables.exec = Jvm.exec) (hb : c.code = cc) (hK : va_K D cl tys s) (hP : va_P D cl ws H) (q0 t0 : Nat) {cA : ClassId} {C : String} {n v : Nat} {f : Nat → Option Nat} (ha : ws[q0]? = some (a, .inl (cA, n, .inr (.inr (.inr (.inr f)))))) (ht : tys[t0]? = some (cA, .object C)) {i : Int32} (hin : vp_in i n) (hv : f i.toNatClampNeg = some v) (hdg : decode cc pc = .ok (.aaload, 1))
    (kk : W p l e R s m args below meth c H locs cells slots Q (F0 m (pc + 1) ls (.ref v :: rest))) : W p l e R s m args below meth c H locs cells slots Q (F0 m pc ls (.int i :: .ref a :: rest)) := by
  refine va_aldq hexec hb hK hP q0 t0 ha ht hin hdg ?_
  rw [hv]
  exact kk
end WRows
section Bodies
/-- what is known in the body of a method of the class -/
def Bx (l : Launch) (G : GT) (p : Program) (s : State) (m : MethodId) (meth : Method) (c : Code) (cc : ByteArray) (nL : Nat) (ret : Option FieldType) (own : String) : Prop :=
  p.tables.exec = Jvm.exec ∧ c.code = cc ∧ c.maxLocals = nL ∧ meth.sig.returnType = ret ∧ s.vm.findClass own = some m.cls ∧ meth.locks = false ∧ (∀ x ∈ c.exceptionTable.toList, False) ∧ GOK l G ∧ ∃ σ, Cw G σ s
variable {p : Program} {l : Launch} {e : Env} {R : Room} {s : State} {m : MethodId} {args : Array Value} {below : List Frame} {meth : Method} {c : Code} {H : Heap} {locs : List Loc} {cells slots : Nat} {Q : State → Prop} {cc : ByteArray} {pc : Nat} {ls : Array Slot} {rest : List Value}
/-- two ways that meet: what comes behind is walked once -/
theorem W_join {α : Type} {P : α → Array Slot → Prop} (g2 : α → Array Slot → JFrame) {g : JFrame} (k : ∀ a ls, P a ls → W p l e R s m args below meth c H locs cells slots Q (g2 a ls)) (h : (∀ a ls, P a ls → W p l e R s m args below meth c H locs cells slots Q (g2 a ls)) → W p l e R s m args below meth c H locs cells slots Q g) : W p l e R s m args below meth c H locs cells slots Q g := h k
/-- x ? a : b of constants: ifeq; iconst a; goto; iconst b -/
theorem W_tern {x a b : Int32} {na nb o1 o2 : Int} {L J : Nat} (hx : p.tables.exec = Jvm.exec) (hb : c.code = cc) (d0 : decode cc pc = .ok (.ifCond .eq o1, 3)) (h1 : (pc : Int) + o1 = (L : Int)) (d1 : decode cc (pc + 3) = .ok (.iconst na, 1)) (ha : Int32.ofInt na = a) (d2 : decode cc (pc + 3 + 1) = .ok (.goto o2, 3)) (h2 : ((pc + 3 + 1 : Nat) : Int) + o2 = (J : Int)) (d3 : decode cc L = .ok (.iconst nb, 1)) (hbv : Int32.ofInt nb = b) (hJ : L + 1 = J)
    (k : W p l e R s m args below meth c H locs cells slots Q (F0 m J ls (.int (if x = 0 then b else a) :: rest))) : W p l e R s m args below meth c H locs cells slots Q (F0 m pc ls (.int x :: rest)) := by
  refine lv_if_eq hx hb d0 h1 (fun q => ?_) (fun q => ?_)
  · refine lv_iconst hx hb d3 hbv ?_
    rw [if_pos q] at k
    rw [hJ]
    exact k
  · refine lv_iconst hx hb d1 ha ?_
    refine lv_goto hx hb d2 h2 ?_
    rw [if_neg q] at k
    exact k
end Bodies
section Ends
variable {p : Program} {l : Launch} {e : Env} {R : Room} {s : State} {m : MethodId} {args : Array Value} {below : List Frame} {meth : Method} {c : Code} {H : Heap} {locs : List Loc} {G : GT} {u : CS} {Tx : String → State → Prop} {cc : ByteArray} {pc : Nat} {ls : Array Slot}
theorem end_i {P : Int32 → CS → Prop} {r : Int32} (hx : p.tables.exec = Jvm.exec) (hb : c.code = cc) (hr : meth.sig.returnType = some .int) (hlocks : meth.locks = false) (hS : va_S (gA G) s.heap H locs) (hP : va_P (gD G) classes (cw G u) H) (d : decode cc pc = .ok (.ireturn, 1)) (h : P r u) :
    W p l e R s m args below meth c H locs 0 0 (cx_E below (gA G) (Ri G P) Tx args s) (F0 m pc ls [.int r]) :=
  cx_ret (W.iret (v := r) hx hb hr (fun t ht _ => ⟨hS.F ht, _, rfl, r, u, rfl, h, by rw [ht]; exact hP⟩) hS.2.2 d hlocks)
theorem end_z {P : Int32 → CS → Prop} {r : Int32} (hx : p.tables.exec = Jvm.exec) (hb : c.code = cc) (hr : meth.sig.returnType = some .boolean) (hlocks : meth.locks = false) (hS : va_S (gA G) s.heap H locs) (hP : va_P (gD G) classes (cw G u) H) (d : decode cc pc = .ok (.ireturn, 1)) (hn : narrow .boolean (.int r) = .int r) (h : P r u) :
    W p l e R s m args below meth c H locs 0 0 (cx_E below (gA G) (Ri G P) Tx args s) (F0 m pc ls [.int r]) :=
  cx_ret (W.zret (v := r) hx hb hr hn (fun t ht _ => ⟨hS.F ht, _, rfl, r, u, rfl, h, by rw [ht]; exact hP⟩) hS.2.2 d hlocks)
theorem end_d {P : UInt64 → CS → Prop} {r : UInt64} (hx : p.tables.exec = Jvm.exec) (hb : c.code = cc) (hr : meth.sig.returnType = some .double) (hlocks : meth.locks = false) (hS : va_S (gA G) s.heap H locs) (hP : va_P (gD G) classes (cw G u) H) (d : decode cc pc = .ok (.dreturn, 1)) (h : P r u) :
    W p l e R s m args below meth c H locs 0 0 (cx_E below (gA G) (Rd G P) Tx args s) (F0 m pc ls [.double r]) :=
  cx_ret (W.dret (v := r) hx hb hr (fun t ht _ => ⟨hS.F ht, _, rfl, r, u, rfl, h, by rw [ht]; exact hP⟩) hS.2.2 d hlocks)
theorem end_v {P : CS → Prop} (hx : p.tables.exec = Jvm.exec) (hb : c.code = cc) (hr : meth.sig.returnType = none) (hlocks : meth.locks = false) (hS : va_S (gA G) s.heap H locs) (hP : va_P (gD G) classes (cw G u) H) (d : decode cc pc = .ok (.return_, 1)) (h : P u) :
    W p l e R s m args below meth c H locs 0 0 (cx_E below (gA G) (Rv G P) Tx args s) (F0 m pc ls []) :=
  cx_ret (W.vret hx hb hr (fun t ht _ => ⟨hS.F ht, _, rfl, u, rfl, h, by rw [ht]; exact hP⟩) hS.2.2 d hlocks)
end Ends
section CwSet
theorem cw_set {G : GT} {σ : CS} {i : Nat} (h : i < 24) (q : Nat → Int32) : (cw G σ).set (19 + i) (gia G i, .inr (3, insF q)) = cw G (sQ σ i q) := by
  have e1 : (cw G σ).set (19 + i) (gia G i, .inr (3, insF q)) = cw1 G σ ++ (cwi G σ).set i (gia G i, .inr (3, insF q)) := by
    rw [List.set_append_right (19 + i) _ (show (cw1 G σ).length ≤ 19 + i from Nat.le_add_right 19 i)]
    show cw1 G σ ++ (cwi G σ).set (19 + i - 19) _ = _
    rw [Nat.add_sub_cancel_left]
  rw [e1]
  have e2 : (cwi G σ).set i (gia G i, .inr (3, insF q)) = cwi G (sQ σ i q) := by
    apply List.ext_getElem?
    intro k
    rw [List.getElem?_set]
    by_cases hk : i = k
    · subst hk
      simp [cwi, h, cQ, sQ, va_up]
    · simp only [cwi, List.length_map, List.length_range, hk, if_false, List.getElem?_map]
      by_cases h2 : k < 24
      · simp [h2, cQ, sQ, va_up, Ne.symm hk]
      · simp [h2]
  rw [e2]
  rfl
theorem sQ_sQ {σ : CS} {i : Nat} {q q' : Nat → Int32} : sQ (sQ σ i q) i q' = sQ σ i q' := by
  simp only [sQ]
  have : va_up (va_up σ.2.2.2.2 i q) i q' = va_up σ.2.2.2.2 i q' := by
    funext j
    unfold va_up
    split <;> rfl
  rw [this]
theorem cw_in2 {G : GT} {σ : CS} {i : Nat} {q : Nat → Int32} (h : i < 24) : (cw G (sQ σ i q))[19 + i]? = some (gia G i, .inr (3, insF q)) := by
  have e : cQ (sQ σ i q) i = q := by simp [cQ, sQ, va_up]
  rw [cw_in h, e]
theorem cw_set2 {G : GT} {σ : CS} {i : Nat} {q : Nat → Int32} (h : i < 24) (q' : Nat → Int32) : (cw G (sQ σ i q)).set (19 + i) (gia G i, .inr (3, insF q')) = cw G (sQ σ i q') := by
  rw [cw_set h, sQ_sQ]
end CwSet
