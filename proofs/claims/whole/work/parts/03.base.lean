/-! BASE: what holds at the law's start s0 and stays: the tables' words, old cells unchanged. -/
section Base
def tb_ok (w : Cond) : Bool := goodWord w || (match w with
  | .fieldLinkNest .. => true
  | .methodLinkNest .. => true
  | .castable .. => true
  | .declares .. => true
  | _ => false)
def Tb (U : State) : Prop := ∀ w ∈ lw_tbl, tb_ok w = true → w.before #[] U = true
theorem Tb.warm {s U : State} (h : Tb s) (hW : s.WarmedH U.vm) : Tb U := by
  intro w hw hk
  have h1 := h w hw hk
  by_cases hg : goodWord w = true
  · exact word_at hW (good_of_word hg) h1
  · have hg' : goodWord w = false := by simpa using hg
    unfold tb_ok at hk
    rw [hg', Bool.false_or] at hk
    split at hk
    · exact va_Nw.warmF hW h1
    · exact va_Nw.warmM hW h1
    · exact va_Nw.warmC hW h1
    · exact va_Nw.warmD hW h1
    · cases hk
theorem Tb.w {s : State} (h : Tb s) {args : Array Value} {w : Cond} (hw : w ∈ lw_tbl) (hk : tb_ok w = true) : w.before args s = true := by
  have h1 := h w hw hk
  by_cases hg : goodWord w = true
  · exact word_at (State.WarmedH.refl s) (good_of_word hg) h1
  · have hg' : goodWord w = false := by simpa using hg
    unfold tb_ok at hk
    rw [hg', Bool.false_or] at hk
    split at hk
    · exact va_any rfl h1
    · exact va_any rfl h1
    · exact va_any rfl h1
    · exact va_any rfl h1
    · cases hk
/-- U is a later state: its tables warmer, every cell that s0 had as it was -/
def Ow (s0 U : State) : Prop := s0.WarmedH U.vm ∧ s0.heap.size ≤ U.heap.size ∧ ∀ q : Nat, q < s0.heap.size → U.heap[q]? = s0.heap[q]?
theorem Ow.rf (s0 : State) : Ow s0 s0 := ⟨State.WarmedH.refl s0, Nat.le_refl _, fun _ _ => rfl⟩
theorem Ow.to {s0 s U : State} {A : Nat → Prop} {H : Heap} {locs : List Loc} (h : Ow s0 s) (hA : ∀ q, A q → s0.heap.size ≤ q) (hS : va_S A s.heap H locs) (hU : U.heap = H) (hW : s.WarmedH U.vm) : Ow s0 U := by
  refine ⟨State.WarmedH.trans h.1 hW, ?_, fun q hq => ?_⟩
  · rw [hU]; exact Nat.le_trans h.2.1 hS.1
  · rw [hU, hS.2.1 q (Nat.lt_of_lt_of_le hq h.2.1) (fun z => absurd (hA q z) (Nat.not_le.mpr hq))]
    exact h.2.2 q hq
theorem Ow.kept {s0 U : State} {A : Nat → Prop} (h : Ow s0 U) : ∀ a : Nat, a < s0.heap.size → ¬ A a → U.heap[a]? = s0.heap[a]? := fun a ha _ => h.2.2 a ha
end Base
section CXcatch
variable {p : Program} {l : Launch} {e : Env} {R : Room} {s : State} {m : MethodId} {args : Array Value} {below : List Frame} {meth : Method} {c : Code} {H : Heap} {locs : List Loc} {cells slots : Nat} {Q : State → Prop}
/-- one row of an exception table whose class is linked: it takes the object or lets it pass -/
theorem cx_row {Q : Handler → Pre} {E : CtlPost} {d : Bool} {acts : List Action} {S : State} {f : JFrame} {a : Addr} {x : ExceptionTableEntry} {t : List ExceptionTableEntry} {k : ClassId} {cell : Cell} {b : Bool} (hx : covers x f.pc = true) (h0 : x.catchType ≠ 0)
    (hl : S.vm.ClassLinks e.platform f.method.cls x.catchType k) (hcell : S.heap[a]? = some cell) (hobj : ∀ z, cell.vm ≠ .statics z)
    (hk : ∃ z, S.vm.classes[cell.cls]? = some z) (hc : ∃ z, S.vm.classes[k]? = some z) (hb : S.vm.assignable cell.cls k = b) :
    wp (findHandler.go f a (x :: t)) Q E e d acts S ↔ (if b = true then Q (.found x.handlerPc) d acts (S.setVm (S.vm.noted f.method.cls x.catchType (.cls k))) else wp (findHandler.go f a t) Q E e d acts (S.setVm (S.vm.noted f.method.cls x.catchType (.cls k)))) := by
  have hal : S.vm.Alike (S.vm.noted f.method.cls x.catchType (.cls k)) := (Vm.Alike.refl S.vm).noted _ _ _
  obtain ⟨ha, ht⟩ := (resolveClass_links e.toSetting hl).op (op := VmOp.resolveClass f.method.cls x.catchType) rfl
  simp only [covers] at hx
  obtain ⟨z1, hz1⟩ := hk
  obtain ⟨z2, hz2⟩ := hc
  obtain ⟨z1', hz1', -⟩ := hal.2.2 _ _ hz1
  obtain ⟨z2', hz2', -⟩ := hal.2.2 _ _ hz2
  have hb' : (S.vm.noted f.method.cls x.catchType (.cls k)).assignable cell.cls k = b := by rw [hal.assignable]; exact hb
  cases b <;> simp [findHandler.go, hx, h0, ha, ht, hcell, hobj, hz1', hz2', hb', VmOp.dirties, VmOp.acts]
end CXcatch
