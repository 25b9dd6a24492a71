/-! THE START: what the Statement gives of it, as the worlds want it; the first state of the relation -/
section Enter
variable {s U : State} {a a' : Array Value} {O n d : String}
theorem st_lays (h : Ow s U) (hl : (Cond.laysStatic O n d).before a s = true) : (Cond.laysStatic O n d).before a' U = true := by
  obtain ⟨c, k, i, f, ad, cell, hc, hi, hst, ha, hcell, hs, hcls, hlt, hty⟩ := Cond.laysStatic_spec hl
  obtain ⟨k', hi', hek⟩ := State.fieldFound?_setVm h.1.alike hi
  exact Cond.laysStatic_of (s := U) (by rw [h.1.alike.findClass]; exact hc) hi' hst (by rw [hek]; exact ha) (by rw [h.2.2 _ (Array.getElem?_eq_some_iff.mp hcell).1]; exact hcell) hs hcls hlt (by rw [hek]; exact hty)
theorem st_isRef (h : Ow s U) (hl : (Cond.isRef (.static O n d)).before a s = true) : (Cond.isRef (.static O n d)).before a' U = true := by
  obtain ⟨v, hv, hr⟩ := Cond.isRef_spec hl
  cases hi : s.fieldFound? O n d with
  | none => simp [Term.eval, State.fieldNamed?, hi] at hv
  | some w =>
    obtain ⟨c, k, i, f⟩ := w
    obtain ⟨hst, ad, cell, ha, hcell, -, hslot⟩ := Term.static_spec hi hv
    have hs : cell.vm.isStatics = true := by
      simp only [Term.eval, State.fieldNamed?, hi, Option.bind_eq_bind, Option.bind_some, hst, beq_self_eq_true, if_true, Option.pure_def, ha, hcell] at hv
      by_cases h' : cell.vm.isStatics = true
      · exact h'
      · simp [h'] at hv
    obtain ⟨k', hi', hek⟩ := State.fieldFound?_setVm h.1.alike hi
    have hev : (Term.static O n d).eval a' U none [] U = some v := Term.static_eval (s := U) hi' hst (by rw [hek]; exact ha) (by rw [h.2.2 _ (Array.getElem?_eq_some_iff.mp hcell).1]; exact hcell) hs hslot
    cases v <;> simp [Value.isRef] at hr <;> simp [Cond.before, Cond.holds, Cond.value, hev]
theorem Tb.start {x : Array Value} (hts : ∀ w ∈ lw_tbl, w.before x s = true) : Tb s := by
  intro w hw hk
  have h1 := hts w hw
  by_cases hg : goodWord w = true
  · exact word_at (State.WarmedH.refl s) (good_of_word hg) h1
  · have hg' : goodWord w = false := by simpa using hg
    unfold tb_ok at hk
    rw [hg', Bool.false_or] at hk
    split at hk
    · exact va_any rfl h1
    · exact va_any rfl h1
    · exact va_any rfl h1
    · exact va_any rfl h1
    · cases hk
theorem st_arr {ty : FieldType} (h : (Cond.arrayClass ty).before a s = true) : ∃ cA, ArrOfT s cA ty ∧ s.vm.findClass ("[" ++ ty.toString) = some cA := by
  obtain ⟨c, k, comp, h1, h2, h3⟩ := Cond.arrayClass_spec h
  exact ⟨c, fun N z => ⟨fun _ h => (by cases h), k, h2, comp, h3⟩, h1⟩
theorem st_K (hT : Tb s) (hAO : va_AO R_In s) : ∃ (D : va_G) (K : Nat → ClassId), va_K D classes (tyK K) s := by
  obtain ⟨c0, i0, h0⟩ := u_known (args := #[]) (C := R_Ck) (T := F_Ck) (N := 5) (n := 5) (wl_Ck hT) (fun _ h => h) (k_29 hT)
  obtain ⟨c1, i1, h1⟩ := u_known (args := #[]) (C := R_Cc) (T := F_Cc) (N := 2) (n := 2) (wl_Cc hT) (fun _ h => h) (k_55 hT)
  obtain ⟨c2, i2, h2⟩ := u_known (args := #[]) (C := R_Dc) (T := F_Dc) (N := 4) (n := 4) (wl_Dc hT) (fun _ h => h) (k_76 hT)
  obtain ⟨c3, i3, h3⟩ := u_known (args := #[]) (C := R_In) (T := F_In) (N := 8) (n := 8) (wl_In hT) (fun _ h => h) (k_140 hT)
  obtain ⟨c4, i4, h4⟩ := u_known (args := #[]) (C := R_Pr) (T := F_Pr) (N := 2) (n := 2) (wl_Pr hT) (fun _ h => h) (k_101 hT)
  obtain ⟨c5, i5, h5⟩ := u_known (args := #[]) (C := R_Sc) (T := F_Sc) (N := 4) (n := 4) (wl_Sc hT) (fun _ h => h) (k_120 hT)
  obtain ⟨c6, i6, h6⟩ := u_known (args := #[]) (C := R_Pc) (T := F_Pc) (N := 12) (n := 12) (wl_Pc hT) (fun _ h => h) (k_19 hT)
  obtain ⟨c7, i7, h7⟩ := u_known (args := #[]) (C := R_Mo) (T := F_Mo) (N := 29) (n := 29) (wl_Mo hT) (fun _ h => h) (k_561 hT)
  obtain ⟨a0, x0, y0⟩ := st_arr (a := #[]) (ty := .int) (k_53 hT)
  obtain ⟨a1, x1, y1⟩ := st_arr (a := #[]) (ty := .double) (k_52 hT)
  obtain ⟨a2, x2, y2⟩ := st_arr (a := #[]) (ty := .boolean) (k_139 hT)
  obtain ⟨a4, x4, y4⟩ := st_arr (a := #[]) (ty := .long) (k_792 hT)
  obtain ⟨comp, a3, kA, f1, -, f2, f3, f4⟩ := Cond.arrayOver_spec hAO
  refine ⟨(fun k => [c0, c1, c2, c3, c4, c5, c6, c7].getD k c0, fun k => [i0, i1, i2, i3, i4, i5, i6, i7].getD k i0), fun k => [a0, a1, a2, a3, a4].getD k a0, fun k q hq => ?_, fun k q hq => ?_⟩
  · match k, hq with
    | 0, hq => cases hq; exact h0
    | 1, hq => cases hq; exact h1
    | 2, hq => cases hq; exact h2
    | 3, hq => cases hq; exact h3
    | 4, hq => cases hq; exact h4
    | 5, hq => cases hq; exact h5
    | 6, hq => cases hq; exact h6
    | 7, hq => cases hq; exact h7
    | k + 8, hq => simp [classes] at hq
  · match k, hq with
    | 0, hq => cases hq; exact ⟨x0, y0⟩
    | 1, hq => cases hq; exact ⟨x1, y1⟩
    | 2, hq => cases hq; exact ⟨x2, y2⟩
    | 3, hq => cases hq; exact ⟨fun N z => ⟨fun _ h => (by cases h), kA, f2, comp, f3⟩, kA, comp, f2, f3, f1, f4⟩
    | 4, hq => cases hq; exact ⟨x4, y4⟩
    | k + 5, hq => simp [tyK] at hq
/-- a table of ints that nobody writes -/
theorem st_tab {f : Nat → Int32} (hl : (Cond.laysStatic O n d).before a s = true) (hini : (Cond.initialized O).before a s = true) (harr : (Cond.arrayOf (.static O n d) .int).before a s = true) (hlen : (Cond.eq (.length (.static O n d)) (.int 20)).before a s = true)
    (hel : ∀ j : Nat, j < 20 → (Cond.eq (.elem (.static O n d) (.int (Int32.ofNat j))) (.int (f j))).before a s = true) : ∃ t : Nat, va_Z O n d (.ref t) (fun q : Nat => s.heap.size ≤ q) s s.heap ∧ va_T .int t 20 (fun j => .int (f j)) (fun q : Nat => s.heap.size ≤ q) s s.heap := by
  obtain ⟨t, h1, h2⟩ := va_Tof (N := 20) (f := fun j => .int (f j)) (A := fun q : Nat => s.heap.size ≤ q) (by decide) harr (va_eqt hlen) (fun j hj => va_eqt (hel j hj)) (fun q h => Nat.not_le.mpr h)
  exact ⟨t, va_Zof hl hini h1 (fun q h => Nat.not_le.mpr h), h2⟩
end Enter
theorem fI_00 (n : Nat) : fI (fun _ => 0) n 0 = fun _ => 0 := by
  funext i
  unfold fI
  split <;> rfl
theorem rel_0 : Rel 0 s0C (rsM t0M) := by
  have R0 : mJ (rsM t0M) 0 = fI (fun _ => 0) 8 0 := rfl
  have R1 : mJ (rsM t0M) 1 = fI (fun _ => 0) 12 0 := rfl
  have R2 : mJ (rsM t0M) 2 = fI (fun _ => 0) 2 (-1) := rfl
  have R3 : mJ (rsM t0M) 3 = fI (fun _ => 0) 4 (-1) := rfl
  have R4 : mJ (rsM t0M) 4 = fI (fun _ => 0) 4 0 := rfl
  have R5 : mJ (rsM t0M) 5 = fI (fun _ => 0) 8 1 := rfl
  have RF : mF (rsM t0M) 1 = fD (fun _ => 0) 4 FP.dconst0 := rfl
  have I3 : mI (rsM t0M) 3 = -1 := rfl
  have I4 : mI (rsM t0M) 4 = 0 := rfl
  have I5 : mI (rsM t0M) 5 = 0 := rfl
  have I9 : mI (rsM t0M) 9 = 0 := rfl
  have em1 : (-1 : Int32).toInt = -1 := by decide
  have hq : ∀ k, mq (rsM t0M) k = fun _ => 0 := fun k => by rw [rs_q]; rfl
  have hok : okM (fun _ => 0) := by unfold okM vp_in; decide
  have ebq : becQ 0 0 0 0 0 = bq (fun _ => 0) := rfl
  have hoq : okQ (becQ 0 0 0 0 0) := by rw [ebq]; exact okQ_bq hok
  have ed : (0 : UInt64) = FP.dconst0 := by decide
  refine ⟨⟨fun k hk => ?_, fun k hk => ?_, rfl, rfl, ?_⟩, ⟨fun k hk => ?_, fun k hk => ?_, ?_, ⟨?_, ?_, ?_, fun k hk => ?_⟩, fun _ _ => ⟨?_, ?_⟩, ?_, fun p hp => ⟨?_, ?_, ?_, ?_⟩, ?_, ?_⟩, ⟨fun k hk => ?_, fun i j hi hj e => e⟩, ?_⟩
  · have : k = 0 ∨ k = 1 ∨ k = 2 ∨ k = 3 ∨ k = 4 ∨ k = 5 ∨ k = 6 ∨ k = 7 ∨ k = 8 ∨ k = 9 ∨ k = 10 := by omega
    rcases this with rfl | rfl | rfl | rfl | rfl | rfl | rfl | rfl | rfl | rfl | rfl <;> rfl
  · have : k = 0 ∨ k = 1 ∨ k = 2 ∨ k = 3 ∨ k = 4 ∨ k = 5 := by omega
    rcases this with rfl | rfl | rfl | rfl | rfl | rfl
    · rw [R0, fI_00]; rfl
    · rw [R1, fI_00]; rfl
    · rfl
    · rfl
    · rfl
    · rfl
  · rw [RF]
    funext i
    unfold fD
    split
    · exact ed
    · rfl
  · rw [hq]; exact hok
  · rw [R5, fI_in _ _ hk]; decide
  · rw [R1, fI_in _ _ (by decide)]
  · rw [I3, em1]; omega
  · rw [I4, Int32.toInt_zero]; omega
  · rw [I5, Int32.toInt_zero]; omega
  · rw [R1, fI_in _ _ hk, Int32.toInt_zero]; omega
  · rw [R2, fI_in _ _ (by decide)]
  · rw [R2, fI_in _ _ (by decide)]
  · rw [I9, Int32.toInt_zero]; omega
  · intro _; rw [R4, fI_in _ _ hp]
  · intro z; rw [R3, fI_in _ _ hp] at z; exact absurd (by decide) z
  · rw [R4, fI_in _ _ hp, Int32.toInt_zero]; omega
  · rw [R4, fI_in _ _ hp, I9]; exact Int.le_refl _
  · intro z; rw [R3, fI_in _ _ (by decide)] at z; exact absurd (by decide) z
  · intro z; rw [R3, fI_in _ _ (by decide)] at z; exact absurd (by decide) z
  · rw [hq]; exact ebq
  · refine ⟨?_, fun i hi => hi, fun i _ => hoq, fun j _ => ?_, fun j _ => ?_⟩
    · show vp_in 0 24
      unfold vp_in; decide
    · show fp_fin 0
      rw [ed]; exact fin0
    · show fp_fin 0
      rw [ed]; exact fin0
