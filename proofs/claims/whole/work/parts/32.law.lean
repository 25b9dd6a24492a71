/-! THE LAW: its loop (what stands first is the skeleton's own) -/
def R_law : String := "PipeComputerLaw"
def lw_P (b : Addr) (xs : List Int32) (args : Array Value) (s : State) : Prop := args = #[.ref b] ∧ s.IntsAt b xs ∧ xs.length ≤ 3584 ∧ (Jvm.Cond.and given_1 narrow_1).before args s = true
def lw_Q (_ : Array Value) (s : State) (o : Outcome) (t : State) : Prop := o = .returned (some (.int 1)) ∧ Framed s o t [] 629890 7206433
def lw_Z (below : List Frame) (a : Array Value) (s : State) : State → Prop := fun t => ∃ o, t.status = .running ∧ Ended t below o ∧ lw_Q a s o t
/-- the law's own end, with 1 on the stack, nothing written that was there before, its room as the claim has it -/
theorem lw_ret {p : Program} {l : Launch} {e : Env} {s : State} {m : MethodId} {below : List Frame} {meth : Method} {c : Code} {b : Nat} (hx : p.tables.exec = Jvm.exec) (hb : c.code = code) (hr : meth.sig.returnType = ret) (hlocks : meth.locks = false) {pc : Nat} {H : Heap} {ls : Array Slot} (hdg : decode code pc = .ok (.ireturn, 1)) : W p l e room_1 s m #[Value.ref b] below meth c H [] 629890 7206433 (lw_Z below #[Value.ref b] s) (F0 m pc ls [.int 1]) := by
  intro T hT X
  obtain ⟨fs, hret, hrun, hended, hW, hframe⟩ := X.leave (v := some (.int 1)) (hlocks := hlocks) (fun h => by rw [hr] at h; cases h)
  have hmeth' : T.vm.method? m = some meth := X.method'
  refine ⟨T.setFrames fs, ?_, .returned (some (.int 1)), hrun, hended, rfl, ⟨_, rfl⟩, hW, hframe⟩
  jvm_step X.here [X.here.top, hx, hb, hdg, hmeth', hr, ret, narrow_b1]
  (try refine ⟨rfl, ?_⟩); (try refine ⟨rfl, ?_⟩)
  first | (intro acts; rw [hret _ acts rfl rfl rfl]) | rw [hret _ _ rfl rfl rfl]
  exact Steps.refl _
/-- what holds at the law's entry: the machine, the code, the tables' words (any of lw_tbl by 'hts w (by decide +kernel)'), the script of L ints xs at the cell b, what the Statement gives of the start (any of its parts by flat_of_before) -/
def lw_At (p : Program) (s : State) (m : MethodId) (meth : Method) (c : Code) (b L : Nat) (xs : Nat → Int32) : Prop :=
  p.tables.exec = Jvm.exec ∧ c.code = code ∧ meth.sig.returnType = ret ∧ c.maxLocals = 9 ∧ s.vm.findClass R_law = some m.cls ∧ (∀ w ∈ lw_tbl, w.before #[Value.ref b] s = true) ∧ va_X b L xs s s.heap ∧ b < s.heap.size ∧ meth.locks = false ∧ (Jvm.Cond.and given_1 narrow_1).before #[Value.ref b] s = true
section LawE
/-- what stands around the law's loop: the two worlds apart, the two arrays for answers -/
def LawE (l : Launch) (s : State) (Gc Gm : GT) (oa ob N0 : Nat) : Prop := GOK l Gc ∧ MOK l Gm ∧ Tno (gS Gc) ∧ gS Gc = s ∧ gS Gm = s ∧ gD Gm = gD Gc ∧ gk Gm = gk Gc ∧ (∀ q, N0 ≤ q → gA Gc q) ∧ (∀ q, N0 ≤ q → gA Gm q) ∧
  (∀ (τ : MS) (k : Nat) (q : Nat × va_E), (mw Gm τ)[k]? = some q → ¬ gA Gc q.1 ∧ q.1 ≠ oa) ∧ (∀ (σ : CS) (k : Nat) (q : Nat × va_E), (cw Gc σ)[k]? = some q → ¬ gA Gm q.1) ∧ ¬ gA Gc oa ∧ ¬ gA Gc ob ∧ ¬ gA Gm oa ∧ ¬ gA Gm ob ∧ oa ≠ ob ∧ s.heap.size ≤ oa ∧ s.heap.size ≤ ob
theorem keepW {D : va_G} {cl : List vw_C} {A : Nat → Prop} {ws : va_W} {H H1 : Heap} (h : va_P D cl ws H) (ho : ∀ (k : Nat) (q : Nat × va_E), ws[k]? = some q → ¬ A q.1) (hk : ∀ q : Nat, q < H.size → ¬ A q → H1[q]? = H[q]?) : va_P D cl ws H1 := h.kept (fun k q hq => hk q.1 (h k q hq).lt (ho k q hq))
theorem one_out {A : Nat → Prop} {X : Nat × va_E} (h : ¬ A X.1) : ∀ (k : Nat) (q : Nat × va_E), [X][k]? = some q → ¬ A q.1 := by
  intro k q hq
  cases k with
  | zero => cases hq; exact h
  | succ k => cases hq
theorem sidx {t L k : Nat} (hk : k < 7) (h : 7 * t + 7 ≤ L) (hL : L ≤ 3584) : vp_in (nI (7 * t) + nI k) L := by
  rw [nI_add]
  exact vp_in_nI (by omega) (by omega)
theorem lg_self (x : Int64) : lg_cmp x x = 0 := by
  unfold lg_cmp
  simp
theorem dc_self {x : UInt64} (h : fp_fin x) : Op.cmpValue (FP.dcmp x x) .l = 0 := by
  have hn : FP.Core.val64 x ≠ .nan := by
    obtain ⟨a, b, c, e⟩ := h
    rw [e]; intro z; cases z
  rw [show FP.dcmp x x = some .eq from FP.Core.dcmp_self hn]
  rfl
theorem law_exit {t L : Nat} (ht : 7 * t ≤ 3591) (hL : L ≤ 3584) (h : ¬ nI L - 7 < nI (7 * t)) : 7 * t + 7 ≤ L := by
  rw [Int32.lt_iff_toInt_lt, Int32.toInt_sub, nI_toInt (by omega), nI_toInt (by omega), show (7 : Int32).toInt = 7 by decide, Int.bmod_eq_of_le_mul_two (by omega) (by omega)] at h
  omega
end LawE
theorem ite_t64 (c : Bool) (a b : Int32) : (if c then a.toInt64 else b.toInt64) = (if c then a else b).toInt64 := by cases c <;> rfl
theorem fin_get {c : Bool} {a : UInt64} (h : c = true → fp_fin a) : fp_fin (if c then a else FP.dconst0) := by
  cases c with
  | true => exact h rfl
  | false => exact fin0
theorem fin8 : fp_fin 4593671619917905920 := ⟨_, _, _, (by decide : FP.Core.val64 4593671619917905920 = .fin false 4503599627370496 (-55))⟩
set_option maxHeartbeats 16000000 in
set_option maxRecDepth 100000 in
theorem law_loop {p : Program} {e : Env} {s : State} {m : MethodId} {below : List Frame} {meth : Method} {c : Code} {l : Launch} {b L : Nat} {xs : Nat → Int32} (hL : L ≤ 3584) (C0 : lw_At p s m meth c b L xs) {Gc Gm : GT} {oa ob N0 : Nat} (E : LawE l s Gc Gm oa ob N0) (eMb : ∀ (τ : MS) (k : Nat) (q : Nat × va_E), (mw Gm τ)[k]? = some q → q.1 ≠ ob) :
    ∀ (k t : Nat) (σ : CS) (τ : MS) (H : Heap) (locs : List Loc) (cells slots : Nat) (ls : Array Slot) (f1 : Nat → Int64) (f2 : Nat → UInt64), 520 ≤ t + k → 7 * t ≤ 3591 → Rel (300 * t) σ τ → va_P (gD Gc) classes (cw Gc σ) H → va_P (gD Gm) classes (mw Gm τ) H → va_P (gD Gc) classes [oL Gc oa f1] H → va_P (gD Gc) classes [oD Gc ob f2] H → va_S (fun q : Nat => s.heap.size ≤ q) s.heap H locs → N0 ≤ H.size → (cells ≤ 1000 + t ∧ slots ≤ 10000 + 6 * t) →
      lv_has ls 9 [(5, .int (nI (7 * t))), (0, .ref b), (1, .ref (gad Gc 0)), (2, .ref (gad Gm 20)), (3, .ref oa), (4, .ref ob)] → W p l e room_1 s m #[Value.ref b] below meth c H locs cells slots (lw_Z below #[Value.ref b] s) (F0 m 28 ls []) := by
  obtain ⟨hx, hb, hr, hml, hown0, hts, hX, hbl, hlocks, hgv⟩ := id C0
  have hown : s.vm.findClass R_La = some m.cls := hown0
  obtain ⟨gc, gm, hno, es1, es2, eD, ek, eA1, eA2, eM9, eC9, hca, hcb, hma, hmb, hab, hsa, hsb⟩ := E
  have hbA : ¬ (fun q : Nat => s.heap.size ≤ q) b := Nat.not_le.mpr hbl
  have hT : Tb s := by rw [← es1]; exact gc.2.1
  have hKc : va_K (gD Gc) classes (tys Gc) s := by rw [← es1]; exact gc.2.2.1
  have hKm : va_K (gD Gm) classes (tys Gm) s := by rw [← es2]; exact gm.2.1
  have hAc : ∀ q, gA Gc q → s.heap.size ≤ q := fun q h => by rw [← es1]; exact gc.2.2.2.1 q h
  have hAm : ∀ q, gA Gm q → s.heap.size ≤ q := fun q h => by rw [← es2]; exact gm.2.2.1 q h
  have hC9 : ∀ {σ : CS} {H : Heap} {locs : List Loc}, va_S (fun q : Nat => s.heap.size ≤ q) s.heap H locs → N0 ≤ H.size → va_P (gD Gc) classes (cw Gc σ) H → ∀ U : State, U.heap = H → s.WarmedH U.vm → Cw Gc σ U := fun hS hN hP U hU hW =>
    ⟨by rw [es1]; exact (Ow.rf s).to (fun _ h => h) hS hU hW, fun q hq => eA1 q (Nat.le_trans hN (by rw [← hU]; exact hq)), by rw [hU]; exact hP⟩
  have hM9 : ∀ {τ : MS} {H : Heap} {locs : List Loc}, va_S (fun q : Nat => s.heap.size ≤ q) s.heap H locs → N0 ≤ H.size → va_P (gD Gm) classes (mw Gm τ) H → ∀ U : State, U.heap = H → s.WarmedH U.vm → Mw Gm τ U := fun hS hN hP U hU hW =>
    ⟨by rw [es2]; exact (Ow.rf s).to (fun _ h => h) hS hU hW, fun q hq => eA2 q (Nat.le_trans hN (by rw [← hU]; exact hq)), by rw [hU]; exact hP⟩
  intro k
  induction k with
  | zero => intro t σ τ H locs cells slots ls f1 f2 h1 h2; omega
  | succ k ih =>
    intro t σ τ H locs cells slots ls f1 f2 hk9 ht7 hR hPc hPm hO1 hO2 hS hN hcs hl
    have hd : 15 * ((300 * t + 300 : Nat) : Int) < 900000000 := by omega
    refine lv_iload hx hb d_La_law_28 (lv_at hl 0 rfl) ?_
    refine lv_aload_n hx hb d_La_law_30 rfl (lv_at hl 1 rfl) ?_
    refine va_slen hx hb hX hbl hbA hS d_La_law_31 ?_
    refine W.eq (g2 := F0 m 32 ls [.int (nI L), .int (nI (7 * t))]) rfl ?_
    refine lv_bipush (v := 7) hx hb d_La_law_32 (by decide) ?_
    refine lv_isub hx hb d_La_law_34 ?_
    refine lv_icmp_gt (tgt := 670) hx hb d_La_law_35 (by decide) (fun c35 => ?_) (fun c35 => ?_)
    · refine lv_iconst (v := 1) hx hb d_La_law_670 (by decide) ?_
      refine va_forget hS.2.2 ?_
      refine W.widen (k := 629890) (n := 7206433) (by have := hcs.1; omega) (by have := hcs.2; omega) ?_
      exact lw_ret hx hb hr hlocks d_La_law_671
    · have h7 : 7 * t + 7 ≤ L := law_exit (by omega) hL c35
      refine lv_aload_n hx hb d_La_law_38 rfl (lv_at hl 1 rfl) ?_
      refine lv_iload hx hb d_La_law_39 (lv_at hl 0 rfl) ?_
      refine va_sld hx hb hX hbl hbA hS (vp_in_nI (by omega) (by omega)) d_La_law_41 ?_
      refine lv_bipush (v := 15) hx hb d_La_law_42 (by decide) ?_
      refine lv_iand hx hb d_La_law_44 ?_
      by_cases c45_0 : ((xs (nI (7 * t)).toNatClampNeg) &&& 15) = 0
      · refine lv_tableIn (tgt := 100) hx hb d_La_law_45 (by rw [c45_0]; decide) (by rw [c45_0]; decide) (by rw [c45_0]; rfl) (by decide) ?_
        refine lv_aload_n hx hb d_La_law_100 rfl (lv_at hl 2 rfl) ?_
        refine lv_aload_n hx hb d_La_law_101 rfl (lv_at hl 1 rfl) ?_
        refine lv_iload hx hb d_La_law_102 (lv_at hl 0 rfl) ?_
        refine lv_iconst (v := 1) hx hb d_La_law_104 (by decide) ?_
        refine lv_iadd hx hb d_La_law_105 ?_
        refine va_sld hx hb hX hbl hbA hS (sidx (k := 1) (by decide) h7 hL) d_La_law_106 ?_
        refine lv_aload_n hx hb d_La_law_107 rfl (lv_at hl 1 rfl) ?_
        refine lv_iload hx hb d_La_law_108 (lv_at hl 0 rfl) ?_
        refine lv_iconst (v := 2) hx hb d_La_law_110 (by decide) ?_
        refine lv_iadd hx hb d_La_law_111 ?_
        refine va_sld hx hb hX hbl hbA hS (sidx (k := 2) (by decide) h7 hL) d_La_law_112 ?_
        refine lv_aload_n hx hb d_La_law_113 rfl (lv_at hl 1 rfl) ?_
        refine lv_iload hx hb d_La_law_114 (lv_at hl 0 rfl) ?_
        refine lv_iconst (v := 3) hx hb d_La_law_116 (by decide) ?_
        refine lv_iadd hx hb d_La_law_117 ?_
        refine va_sld hx hb hX hbl hbA hS (sidx (k := 3) (by decide) h7 hL) d_La_law_118 ?_
        refine lv_aload_n hx hb d_La_law_119 rfl (lv_at hl 1 rfl) ?_
        refine lv_iload hx hb d_La_law_120 (lv_at hl 0 rfl) ?_
        refine lv_iconst (v := 4) hx hb d_La_law_122 (by decide) ?_
        refine lv_iadd hx hb d_La_law_123 ?_
        refine va_sld hx hb hX hbl hbA hS (sidx (k := 4) (by decide) h7 hL) d_La_law_124 ?_
        refine lv_aload_n hx hb d_La_law_125 rfl (lv_at hl 1 rfl) ?_
        refine lv_iload hx hb d_La_law_126 (lv_at hl 0 rfl) ?_
        refine lv_iconst (v := 5) hx hb d_La_law_128 (by decide) ?_
        refine lv_iadd hx hb d_La_law_129 ?_
        refine va_sld hx hb hX hbl hbA hS (sidx (k := 5) (by decide) h7 hL) d_La_law_130 ?_
        refine lv_aload_n hx hb d_La_law_131 rfl (lv_at hl 1 rfl) ?_
        refine lv_iload hx hb d_La_law_132 (lv_at hl 0 rfl) ?_
        refine lv_bipush (v := 6) hx hb d_La_law_134 (by decide) ?_
        refine lv_iadd hx hb d_La_law_136 ?_
        refine va_sld hx hb hX hbl hbA hS (sidx (k := 6) (by decide) h7 hL) d_La_law_137 ?_
        refine cy_S (A0 := fun q : Nat => s.heap.size ≤ q) (n := 7) (As := [.ref (gad Gc 0), .int (xs ((nI (7 * t)) + 1).toNatClampNeg), .int (xs ((nI (7 * t)) + 2).toNatClampNeg), .int (xs ((nI (7 * t)) + 3).toNatClampNeg), .int (xs ((nI (7 * t)) + 4).toNatClampNeg), .int (xs ((nI (7 * t)) + 5).toNatClampNeg), .int (xs ((nI (7 * t)) + 6).toNatClampNeg)]) (rest := []) ⟨hx, hb, hml, hown, fun _ h9 => nomatch h9⟩ (K_La_code gc σ (xs ((nI (7 * t)) + 1).toNatClampNeg) (xs ((nI (7 * t)) + 2).toNatClampNeg) (xs ((nI (7 * t)) + 3).toNatClampNeg) (xs ((nI (7 * t)) + 4).toNatClampNeg) (xs ((nI (7 * t)) + 5).toNatClampNeg) (xs ((nI (7 * t)) + 6).toNatClampNeg) hR.2.2.2) (k_286 hT) (k_287 hT) (k_288 hT) (k_0 hT) rfl (by decide +kernel) (hC9 hS hN hPc) ⟨by decide, by decide⟩ ⟨by have := hcs.1; show _ ≤ 629890; omega, by have := hcs.2; show _ ≤ 7206433; omega⟩ hl.1 (Nat.le_of_ble_eq_true rfl) d_La_law_138 hAc hS (fun v t9 H locs ht9 hRt hz hk hS => ?_)
        obtain ⟨r1, uc, rfl, hcl, hPc⟩ := hRt
        rw [ht9] at hPc
        have hPm := keepW hPm (fun k q hq => (eM9 _ k q hq).1) hk
        have hO1 := keepW hO1 (one_out hca) hk
        have hO2 := keepW hO2 (one_out hcb) hk
        have hN := Nat.le_trans hN hz
        have hcs : cells + 1 ≤ 1000 + (t + 1) ∧ slots + 6 ≤ 10000 + 6 * (t + 1) := by omega
        refine W.eq (g2 := F0 m 141 ls [.int r1]) rfl ?_
        refine lv_istore (lv' := [(6, .int r1), (5, .int (nI (7 * t))), (0, .ref b), (1, .ref (gad Gc 0)), (2, .ref (gad Gm 20)), (3, .ref oa), (4, .ref ob)]) hx hb d_La_law_141 hl (by decide) rfl (fun ls hl => ?_)
        refine lv_aload_n hx hb d_La_law_143 rfl (lv_at hl 4 rfl) ?_
        refine lv_aload_n hx hb d_La_law_144 rfl (lv_at hl 2 rfl) ?_
        refine lv_iload hx hb d_La_law_145 (lv_at hl 1 rfl) ?_
        refine lv_iconst (v := 1) hx hb d_La_law_147 (by decide) ?_
        refine lv_iadd hx hb d_La_law_148 ?_
        refine va_sld hx hb hX hbl hbA hS (sidx (k := 1) (by decide) h7 hL) d_La_law_149 ?_
        refine lv_aload_n hx hb d_La_law_150 rfl (lv_at hl 2 rfl) ?_
        refine lv_iload hx hb d_La_law_151 (lv_at hl 1 rfl) ?_
        refine lv_iconst (v := 2) hx hb d_La_law_153 (by decide) ?_
        refine lv_iadd hx hb d_La_law_154 ?_
        refine va_sld hx hb hX hbl hbA hS (sidx (k := 2) (by decide) h7 hL) d_La_law_155 ?_
        refine lv_aload_n hx hb d_La_law_156 rfl (lv_at hl 2 rfl) ?_
        refine lv_iload hx hb d_La_law_157 (lv_at hl 1 rfl) ?_
        refine lv_iconst (v := 3) hx hb d_La_law_159 (by decide) ?_
        refine lv_iadd hx hb d_La_law_160 ?_
        refine va_sld hx hb hX hbl hbA hS (sidx (k := 3) (by decide) h7 hL) d_La_law_161 ?_
        refine lv_aload_n hx hb d_La_law_162 rfl (lv_at hl 2 rfl) ?_
        refine lv_iload hx hb d_La_law_163 (lv_at hl 1 rfl) ?_
        refine lv_iconst (v := 4) hx hb d_La_law_165 (by decide) ?_
        refine lv_iadd hx hb d_La_law_166 ?_
        refine va_sld hx hb hX hbl hbA hS (sidx (k := 4) (by decide) h7 hL) d_La_law_167 ?_
        refine lv_aload_n hx hb d_La_law_168 rfl (lv_at hl 2 rfl) ?_
        refine lv_iload hx hb d_La_law_169 (lv_at hl 1 rfl) ?_
        refine lv_iconst (v := 5) hx hb d_La_law_171 (by decide) ?_
        refine lv_iadd hx hb d_La_law_172 ?_
        refine va_sld hx hb hX hbl hbA hS (sidx (k := 5) (by decide) h7 hL) d_La_law_173 ?_
        refine lv_aload_n hx hb d_La_law_174 rfl (lv_at hl 2 rfl) ?_
        refine lv_iload hx hb d_La_law_175 (lv_at hl 1 rfl) ?_
        refine lv_bipush (v := 6) hx hb d_La_law_177 (by decide) ?_
        refine lv_iadd hx hb d_La_law_179 ?_
        refine va_sld hx hb hX hbl hbA hS (sidx (k := 6) (by decide) h7 hL) d_La_law_180 ?_
        refine cx_V (A0 := fun q : Nat => s.heap.size ≤ q) (n := 6) (C := R_Mo) (As := [.int (xs ((nI (7 * t)) + 1).toNatClampNeg), .int (xs ((nI (7 * t)) + 2).toNatClampNeg), .int (xs ((nI (7 * t)) + 3).toNatClampNeg), .int (xs ((nI (7 * t)) + 4).toNatClampNeg), .int (xs ((nI (7 * t)) + 5).toNatClampNeg), .int (xs ((nI (7 * t)) + 6).toNatClampNeg)]) (rest := []) ⟨hx, hb, hml, hown, fun _ h9 => nomatch h9⟩ (K_Mo_code gm (τ) (xs ((nI (7 * t)) + 1).toNatClampNeg) (xs ((nI (7 * t)) + 2).toNatClampNeg) (xs ((nI (7 * t)) + 3).toNatClampNeg) (xs ((nI (7 * t)) + 4).toNatClampNeg) (xs ((nI (7 * t)) + 5).toNatClampNeg) (xs ((nI (7 * t)) + 6).toNatClampNeg)) (k_662 hT) (k_663 hT) (k_664 hT) (k_665 hT) (k_9 hT) rfl (by decide +kernel) (va_recv hKm hPm (ci := 7) (q0 := 0) rfl rfl) (hM9 hS hN hPm) ⟨by decide, by decide⟩ ⟨by have := hcs.1; show _ ≤ 629890; omega, by have := hcs.2; show _ ≤ 7206433; omega⟩ hl.1 (Nat.le_of_ble_eq_true rfl) d_La_law_181 hAm hS (fun _ _ _ _ _ _ _ h9 => h9.elim) (fun v t9 H locs ht9 hRt hz hk hS => ?_)
        obtain ⟨um, rfl, eu, hPm⟩ := hRt
        rw [eu, ht9] at hPm
        have hPc := keepW hPc (eC9 _) hk
        have hO1 := keepW hO1 (one_out hma) hk
        have hO2 := keepW hO2 (one_out hmb) hk
        have hN := Nat.le_trans hN hz
        refine W.eq (g2 := F0 m 184 ls []) rfl ?_
        refine lv_aload_n hx hb d_La_law_184 rfl (lv_at hl 4 rfl) ?_
        refine cx_V (A0 := fun q : Nat => s.heap.size ≤ q) (n := 0) (C := R_Mo) (As := []) (rest := []) ⟨hx, hb, hml, hown, fun _ h9 => nomatch h9⟩ (K_Mo_thrown gm (if okC (xs ((nI (7 * t)) + 1).toNatClampNeg) (xs ((nI (7 * t)) + 2).toNatClampNeg) (xs ((nI (7 * t)) + 3).toNatClampNeg) (xs ((nI (7 * t)) + 4).toNatClampNeg) (xs ((nI (7 * t)) + 5).toNatClampNeg) then cdM (τ) (xs ((nI (7 * t)) + 1).toNatClampNeg) (xs ((nI (7 * t)) + 2).toNatClampNeg) (xs ((nI (7 * t)) + 3).toNatClampNeg) (xs ((nI (7 * t)) + 4).toNatClampNeg) (xs ((nI (7 * t)) + 5).toNatClampNeg) (xs ((nI (7 * t)) + 6).toNatClampNeg) else bdF (τ) false)) (k_658 hT) (k_659 hT) (k_660 hT) (k_661 hT) (k_9 hT) rfl (by decide +kernel) (va_recv hKm hPm (ci := 7) (q0 := 0) rfl rfl) (hM9 hS hN hPm) ⟨by decide, by decide⟩ ⟨by have := hcs.1; show _ ≤ 629890; omega, by have := hcs.2; show _ ≤ 7206433; omega⟩ hl.1 (Nat.le_of_ble_eq_true rfl) d_La_law_185 hAm hS (fun _ _ _ _ _ _ _ h9 => h9.elim) (fun v t9 H locs ht9 hRt hz hk hS => ?_)
        obtain ⟨r9, um, rfl, ⟨er, eu⟩, hPm⟩ := hRt
        subst er
        rw [eu, ht9] at hPm
        have hPc := keepW hPc (eC9 _) hk
        have hO1 := keepW hO1 (one_out hma) hk
        have hO2 := keepW hO2 (one_out hmb) hk
        have hN := Nat.le_trans hN hz
        refine W.eq (g2 := F0 m 188 ls [.int (mI (if okC (xs ((nI (7 * t)) + 1).toNatClampNeg) (xs ((nI (7 * t)) + 2).toNatClampNeg) (xs ((nI (7 * t)) + 3).toNatClampNeg) (xs ((nI (7 * t)) + 4).toNatClampNeg) (xs ((nI (7 * t)) + 5).toNatClampNeg) then cdM (τ) (xs ((nI (7 * t)) + 1).toNatClampNeg) (xs ((nI (7 * t)) + 2).toNatClampNeg) (xs ((nI (7 * t)) + 3).toNatClampNeg) (xs ((nI (7 * t)) + 4).toNatClampNeg) (xs ((nI (7 * t)) + 5).toNatClampNeg) (xs ((nI (7 * t)) + 6).toNatClampNeg) else bdF (τ) false) 11)]) rfl ?_
        refine lv_iload hx hb d_La_law_188 (lv_at hl 0 rfl) ?_
        refine lv_icmp_eq (tgt := 195) hx hb d_La_law_190 (by decide) (fun c190 => ?_) (fun c190 => ?_)
        · refine lv_goto (tgt := 664) hx hb d_La_law_195 (by decide) ?_
          refine lv_iinc (v := ((nI (7 * t)) + 7)) (lv' := [(5, .int ((nI (7 * t)) + 7)), (6, .int r1), (0, .ref b), (1, .ref (gad Gc 0)), (2, .ref (gad Gm 20)), (3, .ref oa), (4, .ref ob)]) hx hb d_La_law_664 hl (k := 1) rfl rfl (by decide) rfl (fun ls hl => ?_)
          refine lv_goto (tgt := 28) hx hb d_La_law_667 (by decide) ?_
          have hl9 : lv_has ls 9 [(5, .int (nI (7 * (t + 1)))), (0, .ref b), (1, .ref (gad Gc 0)), (2, .ref (gad Gm 20)), (3, .ref oa), (4, .ref ob)] := by rw [show nI (7 * (t + 1)) = nI (7 * t) + nI 7 by rw [nI_add]; rfl]; exact lv_sub hl [0, 2, 3, 4, 5, 6] rfl
          exact ih (t + 1) uc (if okC (xs ((nI (7 * t)) + 1).toNatClampNeg) (xs ((nI (7 * t)) + 2).toNatClampNeg) (xs ((nI (7 * t)) + 3).toNatClampNeg) (xs ((nI (7 * t)) + 4).toNatClampNeg) (xs ((nI (7 * t)) + 5).toNatClampNeg) then cdM (τ) (xs ((nI (7 * t)) + 1).toNatClampNeg) (xs ((nI (7 * t)) + 2).toNatClampNeg) (xs ((nI (7 * t)) + 3).toNatClampNeg) (xs ((nI (7 * t)) + 4).toNatClampNeg) (xs ((nI (7 * t)) + 5).toNatClampNeg) (xs ((nI (7 * t)) + 6).toNatClampNeg) else bdF (τ) false) H locs (cells + 1) (slots + 6) ls f1 f2 (by omega) (by omega) ((c_code hR hcl).2.le (by omega)) hPc hPm hO1 hO2 hS hN hcs hl9
        · exact absurd (c_code hR hcl).1 c190
      by_cases c45_1 : ((xs (nI (7 * t)).toNatClampNeg) &&& 15) = 1
      · refine lv_tableIn (tgt := 198) hx hb d_La_law_45 (by rw [c45_1]; decide) (by rw [c45_1]; decide) (by rw [c45_1]; rfl) (by decide) ?_
        refine lv_aload_n hx hb d_La_law_198 rfl (lv_at hl 2 rfl) ?_
        refine lv_aload_n hx hb d_La_law_199 rfl (lv_at hl 1 rfl) ?_
        refine lv_iload hx hb d_La_law_200 (lv_at hl 0 rfl) ?_
        refine lv_iconst (v := 1) hx hb d_La_law_202 (by decide) ?_
        refine lv_iadd hx hb d_La_law_203 ?_
        refine va_sld hx hb hX hbl hbA hS (sidx (k := 1) (by decide) h7 hL) d_La_law_204 ?_
        refine lv_aload_n hx hb d_La_law_205 rfl (lv_at hl 1 rfl) ?_
        refine lv_iload hx hb d_La_law_206 (lv_at hl 0 rfl) ?_
        refine lv_iconst (v := 2) hx hb d_La_law_208 (by decide) ?_
        refine lv_iadd hx hb d_La_law_209 ?_
        refine va_sld hx hb hX hbl hbA hS (sidx (k := 2) (by decide) h7 hL) d_La_law_210 ?_
        refine lv_i2d hx hb d_La_law_211 ?_
        refine lv_ldc2d (v := 4593671619917905920) hx hb hown (k_791 hT) d_La_law_212 ?_
        refine lv_dmul hx hb d_La_law_215 (fp_mul (i2d_fin _) fin8) ?_
        refine cy_S (A0 := fun q : Nat => s.heap.size ≤ q) (n := 3) (As := [.ref (gad Gc 0), .int (xs ((nI (7 * t)) + 1).toNatClampNeg), .double (FP.dmul (FP.i2d (xs ((nI (7 * t)) + 2).toNatClampNeg)) 4593671619917905920)]) (rest := []) ⟨hx, hb, hml, hown, fun _ h9 => nomatch h9⟩ (K_La_cell2 gc σ (xs ((nI (7 * t)) + 1).toNatClampNeg) (FP.dmul (FP.i2d (xs ((nI (7 * t)) + 2).toNatClampNeg)) 4593671619917905920)) (k_374 hT) (k_375 hT) (k_376 hT) (k_0 hT) rfl (by decide +kernel) (hC9 hS hN hPc) ⟨by decide, by decide⟩ ⟨by have := hcs.1; show _ ≤ 629890; omega, by have := hcs.2; show _ ≤ 7206433; omega⟩ hl.1 (Nat.le_of_ble_eq_true rfl) d_La_law_216 hAc hS (fun v t9 H locs ht9 hRt hz hk hS => ?_)
        obtain ⟨r1, uc, rfl, hcl, hPc⟩ := hRt
        rw [ht9] at hPc
        have hPm := keepW hPm (fun k q hq => (eM9 _ k q hq).1) hk
        have hO1 := keepW hO1 (one_out hca) hk
        have hO2 := keepW hO2 (one_out hcb) hk
        have hN := Nat.le_trans hN hz
        have hcs : cells + 1 ≤ 1000 + (t + 1) ∧ slots + 6 ≤ 10000 + 6 * (t + 1) := by omega
        refine W.eq (g2 := F0 m 219 ls [.int r1]) rfl ?_
        refine lv_istore (lv' := [(6, .int r1), (5, .int (nI (7 * t))), (0, .ref b), (1, .ref (gad Gc 0)), (2, .ref (gad Gm 20)), (3, .ref oa), (4, .ref ob)]) hx hb d_La_law_219 hl (by decide) rfl (fun ls hl => ?_)
        refine lv_aload_n hx hb d_La_law_221 rfl (lv_at hl 4 rfl) ?_
        refine lv_aload_n hx hb d_La_law_222 rfl (lv_at hl 2 rfl) ?_
        refine lv_iload hx hb d_La_law_223 (lv_at hl 1 rfl) ?_
        refine lv_iconst (v := 1) hx hb d_La_law_225 (by decide) ?_
        refine lv_iadd hx hb d_La_law_226 ?_
        refine va_sld hx hb hX hbl hbA hS (sidx (k := 1) (by decide) h7 hL) d_La_law_227 ?_
        refine lv_aload_n hx hb d_La_law_228 rfl (lv_at hl 2 rfl) ?_
        refine lv_iload hx hb d_La_law_229 (lv_at hl 1 rfl) ?_
        refine lv_iconst (v := 2) hx hb d_La_law_231 (by decide) ?_
        refine lv_iadd hx hb d_La_law_232 ?_
        refine va_sld hx hb hX hbl hbA hS (sidx (k := 2) (by decide) h7 hL) d_La_law_233 ?_
        refine lv_i2d hx hb d_La_law_234 ?_
        refine lv_ldc2d (v := 4593671619917905920) hx hb hown (k_791 hT) d_La_law_235 ?_
        refine lv_dmul hx hb d_La_law_238 (fp_mul (i2d_fin _) fin8) ?_
        refine cx_V (A0 := fun q : Nat => s.heap.size ≤ q) (n := 2) (C := R_Mo) (As := [.int (xs ((nI (7 * t)) + 1).toNatClampNeg), .double (FP.dmul (FP.i2d (xs ((nI (7 * t)) + 2).toNatClampNeg)) 4593671619917905920)]) (rest := []) ⟨hx, hb, hml, hown, fun _ h9 => nomatch h9⟩ (K_Mo_cell gm (τ) (xs ((nI (7 * t)) + 1).toNatClampNeg) (FP.dmul (FP.i2d (xs ((nI (7 * t)) + 2).toNatClampNeg)) 4593671619917905920)) (k_673 hT) (k_674 hT) (k_675 hT) (k_676 hT) (k_9 hT) rfl (by decide +kernel) (va_recv hKm hPm (ci := 7) (q0 := 0) rfl rfl) (hM9 hS hN hPm) ⟨by decide, by decide⟩ ⟨by have := hcs.1; show _ ≤ 629890; omega, by have := hcs.2; show _ ≤ 7206433; omega⟩ hl.1 (Nat.le_of_ble_eq_true rfl) d_La_law_239 hAm hS (fun _ _ _ _ _ _ _ h9 => h9.elim) (fun v t9 H locs ht9 hRt hz hk hS => ?_)
        obtain ⟨um, rfl, eu, hPm⟩ := hRt
        rw [eu, ht9] at hPm
        have hPc := keepW hPc (eC9 _) hk
        have hO1 := keepW hO1 (one_out hma) hk
        have hO2 := keepW hO2 (one_out hmb) hk
        have hN := Nat.le_trans hN hz
        refine W.eq (g2 := F0 m 242 ls []) rfl ?_
        refine lv_aload_n hx hb d_La_law_242 rfl (lv_at hl 4 rfl) ?_
        refine cx_V (A0 := fun q : Nat => s.heap.size ≤ q) (n := 0) (C := R_Mo) (As := []) (rest := []) ⟨hx, hb, hml, hown, fun _ h9 => nomatch h9⟩ (K_Mo_thrown gm (if okV (xs ((nI (7 * t)) + 1).toNatClampNeg) (FP.dmul (FP.i2d (xs ((nI (7 * t)) + 2).toNatClampNeg)) 4593671619917905920) then tF (bdF (τ) true) 0 (vf_upd (mF (τ) 0) (ix (xs ((nI (7 * t)) + 1).toNatClampNeg)) (FP.dmul (FP.i2d (xs ((nI (7 * t)) + 2).toNatClampNeg)) 4593671619917905920)) else bdF (τ) false)) (k_658 hT) (k_659 hT) (k_660 hT) (k_661 hT) (k_9 hT) rfl (by decide +kernel) (va_recv hKm hPm (ci := 7) (q0 := 0) rfl rfl) (hM9 hS hN hPm) ⟨by decide, by decide⟩ ⟨by have := hcs.1; show _ ≤ 629890; omega, by have := hcs.2; show _ ≤ 7206433; omega⟩ hl.1 (Nat.le_of_ble_eq_true rfl) d_La_law_243 hAm hS (fun _ _ _ _ _ _ _ h9 => h9.elim) (fun v t9 H locs ht9 hRt hz hk hS => ?_)
        obtain ⟨r9, um, rfl, ⟨er, eu⟩, hPm⟩ := hRt
        subst er
        rw [eu, ht9] at hPm
        have hPc := keepW hPc (eC9 _) hk
        have hO1 := keepW hO1 (one_out hma) hk
        have hO2 := keepW hO2 (one_out hmb) hk
        have hN := Nat.le_trans hN hz
        refine W.eq (g2 := F0 m 246 ls [.int (mI (if okV (xs ((nI (7 * t)) + 1).toNatClampNeg) (FP.dmul (FP.i2d (xs ((nI (7 * t)) + 2).toNatClampNeg)) 4593671619917905920) then tF (bdF (τ) true) 0 (vf_upd (mF (τ) 0) (ix (xs ((nI (7 * t)) + 1).toNatClampNeg)) (FP.dmul (FP.i2d (xs ((nI (7 * t)) + 2).toNatClampNeg)) 4593671619917905920)) else bdF (τ) false) 11)]) rfl ?_
        refine lv_iload hx hb d_La_law_246 (lv_at hl 0 rfl) ?_
        refine lv_icmp_eq (tgt := 253) hx hb d_La_law_248 (by decide) (fun c248 => ?_) (fun c248 => ?_)
        · refine lv_goto (tgt := 664) hx hb d_La_law_253 (by decide) ?_
          refine lv_iinc (v := ((nI (7 * t)) + 7)) (lv' := [(5, .int ((nI (7 * t)) + 7)), (6, .int r1), (0, .ref b), (1, .ref (gad Gc 0)), (2, .ref (gad Gm 20)), (3, .ref oa), (4, .ref ob)]) hx hb d_La_law_664 hl (k := 1) rfl rfl (by decide) rfl (fun ls hl => ?_)
          refine lv_goto (tgt := 28) hx hb d_La_law_667 (by decide) ?_
          have hl9 : lv_has ls 9 [(5, .int (nI (7 * (t + 1)))), (0, .ref b), (1, .ref (gad Gc 0)), (2, .ref (gad Gm 20)), (3, .ref oa), (4, .ref ob)] := by rw [show nI (7 * (t + 1)) = nI (7 * t) + nI 7 by rw [nI_add]; rfl]; exact lv_sub hl [0, 2, 3, 4, 5, 6] rfl
          exact ih (t + 1) uc (if okV (xs ((nI (7 * t)) + 1).toNatClampNeg) (FP.dmul (FP.i2d (xs ((nI (7 * t)) + 2).toNatClampNeg)) 4593671619917905920) then tF (bdF (τ) true) 0 (vf_upd (mF (τ) 0) (ix (xs ((nI (7 * t)) + 1).toNatClampNeg)) (FP.dmul (FP.i2d (xs ((nI (7 * t)) + 2).toNatClampNeg)) 4593671619917905920)) else bdF (τ) false) H locs (cells + 1) (slots + 6) ls f1 f2 (by omega) (by omega) ((c_cell hR hcl).2.le (by omega)) hPc hPm hO1 hO2 hS hN hcs hl9
        · exact absurd (c_cell hR hcl).1 c248
      by_cases c45_2 : ((xs (nI (7 * t)).toNatClampNeg) &&& 15) = 2
      · refine lv_tableIn (tgt := 256) hx hb d_La_law_45 (by rw [c45_2]; decide) (by rw [c45_2]; decide) (by rw [c45_2]; rfl) (by decide) ?_
        refine lv_aload_n hx hb d_La_law_256 rfl (lv_at hl 2 rfl) ?_
        refine lv_aload_n hx hb d_La_law_257 rfl (lv_at hl 1 rfl) ?_
        refine lv_iload hx hb d_La_law_258 (lv_at hl 0 rfl) ?_
        refine lv_iconst (v := 1) hx hb d_La_law_260 (by decide) ?_
        refine lv_iadd hx hb d_La_law_261 ?_
        refine va_sld hx hb hX hbl hbA hS (sidx (k := 1) (by decide) h7 hL) d_La_law_262 ?_
        refine cy_S (A0 := fun q : Nat => s.heap.size ≤ q) (n := 2) (As := [.ref (gad Gc 0), .int (xs ((nI (7 * t)) + 1).toNatClampNeg)]) (rest := []) ⟨hx, hb, hml, hown, fun _ h9 => nomatch h9⟩ (K_La_start gc σ (xs ((nI (7 * t)) + 1).toNatClampNeg)) (k_383 hT) (k_384 hT) (k_385 hT) (k_0 hT) rfl (by decide +kernel) (hC9 hS hN hPc) ⟨by decide, by decide⟩ ⟨by have := hcs.1; show _ ≤ 629890; omega, by have := hcs.2; show _ ≤ 7206433; omega⟩ hl.1 (Nat.le_of_ble_eq_true rfl) d_La_law_263 hAc hS (fun v t9 H locs ht9 hRt hz hk hS => ?_)
        obtain ⟨r1, uc, rfl, hcl, hPc⟩ := hRt
        rw [ht9] at hPc
        have hPm := keepW hPm (fun k q hq => (eM9 _ k q hq).1) hk
        have hO1 := keepW hO1 (one_out hca) hk
        have hO2 := keepW hO2 (one_out hcb) hk
        have hN := Nat.le_trans hN hz
        have hcs : cells + 1 ≤ 1000 + (t + 1) ∧ slots + 6 ≤ 10000 + 6 * (t + 1) := by omega
        refine W.eq (g2 := F0 m 266 ls [.int r1]) rfl ?_
        refine lv_istore (lv' := [(6, .int r1), (5, .int (nI (7 * t))), (0, .ref b), (1, .ref (gad Gc 0)), (2, .ref (gad Gm 20)), (3, .ref oa), (4, .ref ob)]) hx hb d_La_law_266 hl (by decide) rfl (fun ls hl => ?_)
        refine lv_aload_n hx hb d_La_law_268 rfl (lv_at hl 4 rfl) ?_
        refine lv_aload_n hx hb d_La_law_269 rfl (lv_at hl 2 rfl) ?_
        refine lv_iload hx hb d_La_law_270 (lv_at hl 1 rfl) ?_
        refine lv_iconst (v := 1) hx hb d_La_law_272 (by decide) ?_
        refine lv_iadd hx hb d_La_law_273 ?_
        refine va_sld hx hb hX hbl hbA hS (sidx (k := 1) (by decide) h7 hL) d_La_law_274 ?_
        refine cx_V (A0 := fun q : Nat => s.heap.size ≤ q) (n := 1) (C := R_Mo) (As := [.int (xs ((nI (7 * t)) + 1).toNatClampNeg)]) (rest := []) ⟨hx, hb, hml, hown, fun _ h9 => nomatch h9⟩ (K_Mo_start gm (τ) (xs ((nI (7 * t)) + 1).toNatClampNeg)) (k_679 hT) (k_680 hT) (k_681 hT) (k_682 hT) (k_9 hT) rfl (by decide +kernel) (va_recv hKm hPm (ci := 7) (q0 := 0) rfl rfl) (hM9 hS hN hPm) ⟨by decide, by decide⟩ ⟨by have := hcs.1; show _ ≤ 629890; omega, by have := hcs.2; show _ ≤ 7206433; omega⟩ hl.1 (Nat.le_of_ble_eq_true rfl) d_La_law_275 hAm hS (fun _ _ _ _ _ _ _ h9 => h9.elim) (fun v t9 H locs ht9 hRt hz hk hS => ?_)
        obtain ⟨um, rfl, eu, hPm⟩ := hRt
        rw [eu, ht9] at hPm
        have hPc := keepW hPc (eC9 _) hk
        have hO1 := keepW hO1 (one_out hma) hk
        have hO2 := keepW hO2 (one_out hmb) hk
        have hN := Nat.le_trans hN hz
        refine W.eq (g2 := F0 m 278 ls []) rfl ?_
        refine lv_aload_n hx hb d_La_law_278 rfl (lv_at hl 4 rfl) ?_
        refine cx_V (A0 := fun q : Nat => s.heap.size ≤ q) (n := 0) (C := R_Mo) (As := []) (rest := []) ⟨hx, hb, hml, hown, fun _ h9 => nomatch h9⟩ (K_Mo_thrown gm (if inF (xs ((nI (7 * t)) + 1).toNatClampNeg) 0 23 then tI (tI (rsM (bdF (τ) true)) 0 (xs ((nI (7 * t)) + 1).toNatClampNeg)) 1 0 else bdF (τ) false)) (k_658 hT) (k_659 hT) (k_660 hT) (k_661 hT) (k_9 hT) rfl (by decide +kernel) (va_recv hKm hPm (ci := 7) (q0 := 0) rfl rfl) (hM9 hS hN hPm) ⟨by decide, by decide⟩ ⟨by have := hcs.1; show _ ≤ 629890; omega, by have := hcs.2; show _ ≤ 7206433; omega⟩ hl.1 (Nat.le_of_ble_eq_true rfl) d_La_law_279 hAm hS (fun _ _ _ _ _ _ _ h9 => h9.elim) (fun v t9 H locs ht9 hRt hz hk hS => ?_)
        obtain ⟨r9, um, rfl, ⟨er, eu⟩, hPm⟩ := hRt
        subst er
        rw [eu, ht9] at hPm
        have hPc := keepW hPc (eC9 _) hk
        have hO1 := keepW hO1 (one_out hma) hk
        have hO2 := keepW hO2 (one_out hmb) hk
        have hN := Nat.le_trans hN hz
        refine W.eq (g2 := F0 m 282 ls [.int (mI (if inF (xs ((nI (7 * t)) + 1).toNatClampNeg) 0 23 then tI (tI (rsM (bdF (τ) true)) 0 (xs ((nI (7 * t)) + 1).toNatClampNeg)) 1 0 else bdF (τ) false) 11)]) rfl ?_
        refine lv_iload hx hb d_La_law_282 (lv_at hl 0 rfl) ?_
        refine lv_icmp_eq (tgt := 289) hx hb d_La_law_284 (by decide) (fun c284 => ?_) (fun c284 => ?_)
        · refine lv_goto (tgt := 664) hx hb d_La_law_289 (by decide) ?_
          refine lv_iinc (v := ((nI (7 * t)) + 7)) (lv' := [(5, .int ((nI (7 * t)) + 7)), (6, .int r1), (0, .ref b), (1, .ref (gad Gc 0)), (2, .ref (gad Gm 20)), (3, .ref oa), (4, .ref ob)]) hx hb d_La_law_664 hl (k := 1) rfl rfl (by decide) rfl (fun ls hl => ?_)
          refine lv_goto (tgt := 28) hx hb d_La_law_667 (by decide) ?_
          have hl9 : lv_has ls 9 [(5, .int (nI (7 * (t + 1)))), (0, .ref b), (1, .ref (gad Gc 0)), (2, .ref (gad Gm 20)), (3, .ref oa), (4, .ref ob)] := by rw [show nI (7 * (t + 1)) = nI (7 * t) + nI 7 by rw [nI_add]; rfl]; exact lv_sub hl [0, 2, 3, 4, 5, 6] rfl
          exact ih (t + 1) uc (if inF (xs ((nI (7 * t)) + 1).toNatClampNeg) 0 23 then tI (tI (rsM (bdF (τ) true)) 0 (xs ((nI (7 * t)) + 1).toNatClampNeg)) 1 0 else bdF (τ) false) H locs (cells + 1) (slots + 6) ls f1 f2 (by omega) (by omega) ((c_start hR hcl).2.le (by omega)) hPc hPm hO1 hO2 hS hN hcs hl9
        · exact absurd (c_start hR hcl).1 c284
      by_cases c45_3 : ((xs (nI (7 * t)).toNatClampNeg) &&& 15) = 3
      · refine lv_tableIn (tgt := 292) hx hb d_La_law_45 (by rw [c45_3]; decide) (by rw [c45_3]; decide) (by rw [c45_3]; rfl) (by decide) ?_
        refine lv_aload_n hx hb d_La_law_292 rfl (lv_at hl 2 rfl) ?_
        refine lv_aload_n hx hb d_La_law_293 rfl (lv_at hl 1 rfl) ?_
        refine lv_iload hx hb d_La_law_294 (lv_at hl 0 rfl) ?_
        refine lv_iconst (v := 1) hx hb d_La_law_296 (by decide) ?_
        refine lv_iadd hx hb d_La_law_297 ?_
        refine va_sld hx hb hX hbl hbA hS (sidx (k := 1) (by decide) h7 hL) d_La_law_298 ?_
        refine lv_aload_n hx hb d_La_law_299 rfl (lv_at hl 4 rfl) ?_
        refine cy_S (A0 := fun q : Nat => s.heap.size ≤ q) (n := 3) (As := [.ref (gad Gc 0), .int (xs ((nI (7 * t)) + 1).toNatClampNeg), .ref oa]) (rest := []) ⟨hx, hb, hml, hown, fun _ h9 => nomatch h9⟩ (K_La_run gc hno σ (xs ((nI (7 * t)) + 1).toNatClampNeg) hR.2.2.2 hca f1) (k_402 hT) (k_403 hT) (k_404 hT) (k_0 hT) rfl (by decide +kernel) (fun U hU hW => ⟨hC9 hS hN hPc U hU hW, by rw [hU]; exact hO1⟩) ⟨by decide, by decide⟩ ⟨by have := hcs.1; show _ ≤ 629890; omega, by have := hcs.2; show _ ≤ 7206433; omega⟩ hl.1 (Nat.le_of_ble_eq_true rfl) d_La_law_300 (fun q h9 => h9.elim (hAc q) (fun z => by rw [z]; exact hsa)) hS (fun v t9 H locs ht9 hRt hz hk hS => ?_)
        obtain ⟨r1, uc, f9, rfl, hcl, hPc, hO1⟩ := hRt
        rw [ht9] at hPc
        rw [ht9] at hO1
        have hPm := keepW hPm (fun k q hq z => z.elim (eM9 _ k q hq).1 (eM9 _ k q hq).2) hk
        have hO2 := keepW hO2 (one_out (fun z => z.elim hcb (fun y => hab y.symm))) hk
        have hN := Nat.le_trans hN hz
        have hcs : cells + 1 ≤ 1000 + (t + 1) ∧ slots + 6 ≤ 10000 + 6 * (t + 1) := by omega
        refine W.eq (g2 := F0 m 303 ls [.int r1]) rfl ?_
        refine lv_istore (lv' := [(6, .int r1), (5, .int (nI (7 * t))), (0, .ref b), (1, .ref (gad Gc 0)), (2, .ref (gad Gm 20)), (3, .ref oa), (4, .ref ob)]) hx hb d_La_law_303 hl (by decide) rfl (fun ls hl => ?_)
        refine lv_aload_n hx hb d_La_law_305 rfl (lv_at hl 4 rfl) ?_
        refine lv_aload_n hx hb d_La_law_306 rfl (lv_at hl 2 rfl) ?_
        refine lv_iload hx hb d_La_law_307 (lv_at hl 1 rfl) ?_
        refine lv_iconst (v := 1) hx hb d_La_law_309 (by decide) ?_
        refine lv_iadd hx hb d_La_law_310 ?_
        refine va_sld hx hb hX hbl hbA hS (sidx (k := 1) (by decide) h7 hL) d_La_law_311 ?_
        refine cx_V (A0 := fun q : Nat => s.heap.size ≤ q) (n := 1) (C := R_Mo) (As := [.int (xs ((nI (7 * t)) + 1).toNatClampNeg)]) (rest := []) ⟨hx, hb, hml, hown, fun _ h9 => nomatch h9⟩ (K_Mo_run gm (τ) (xs ((nI (7 * t)) + 1).toNatClampNeg) (c_runw hR hd (xs ((nI (7 * t)) + 1).toNatClampNeg))) (k_683 hT) (k_684 hT) (k_685 hT) (k_686 hT) (k_9 hT) rfl (by decide +kernel) (va_recv hKm hPm (ci := 7) (q0 := 0) rfl rfl) (hM9 hS hN hPm) ⟨by decide, by decide⟩ ⟨by have := hcs.1; show _ ≤ 629890; omega, by have := hcs.2; show _ ≤ 7206433; omega⟩ hl.1 (Nat.le_of_ble_eq_true rfl) d_La_law_312 hAm hS (fun _ _ _ _ _ _ _ h9 => h9.elim) (fun v t9 H locs ht9 hRt hz hk hS => ?_)
        obtain ⟨r9, um, rfl, ⟨er, eu⟩, hPm⟩ := hRt
        subst er
        rw [eu, ht9] at hPm
        have hPc := keepW hPc (eC9 _) hk
        have hO1 := keepW hO1 (one_out hma) hk
        have hO2 := keepW hO2 (one_out hmb) hk
        have hN := Nat.le_trans hN hz
        refine W.eq (g2 := F0 m 315 ls [.int ((rnM (τ) (xs ((nI (7 * t)) + 1).toNatClampNeg)).1)]) rfl ?_
        refine lv_istore (lv' := [(7, .int ((rnM (τ) (xs ((nI (7 * t)) + 1).toNatClampNeg)).1)), (6, .int r1), (5, .int (nI (7 * t))), (0, .ref b), (1, .ref (gad Gc 0)), (2, .ref (gad Gm 20)), (3, .ref oa), (4, .ref ob)]) hx hb d_La_law_315 hl (by decide) rfl (fun ls hl => ?_)
        refine lv_aload_n hx hb d_La_law_317 rfl (lv_at hl 5 rfl) ?_
        refine cx_V (A0 := fun q : Nat => s.heap.size ≤ q) (n := 0) (C := R_Mo) (As := []) (rest := []) ⟨hx, hb, hml, hown, fun _ h9 => nomatch h9⟩ (K_Mo_thrown gm ((rnM (τ) (xs ((nI (7 * t)) + 1).toNatClampNeg)).2)) (k_658 hT) (k_659 hT) (k_660 hT) (k_661 hT) (k_9 hT) rfl (by decide +kernel) (va_recv hKm hPm (ci := 7) (q0 := 0) rfl rfl) (hM9 hS hN hPm) ⟨by decide, by decide⟩ ⟨by have := hcs.1; show _ ≤ 629890; omega, by have := hcs.2; show _ ≤ 7206433; omega⟩ hl.1 (Nat.le_of_ble_eq_true rfl) d_La_law_318 hAm hS (fun _ _ _ _ _ _ _ h9 => h9.elim) (fun v t9 H locs ht9 hRt hz hk hS => ?_)
        obtain ⟨r9, um, rfl, ⟨er, eu⟩, hPm⟩ := hRt
        subst er
        rw [eu, ht9] at hPm
        have hPc := keepW hPc (eC9 _) hk
        have hO1 := keepW hO1 (one_out hma) hk
        have hO2 := keepW hO2 (one_out hmb) hk
        have hN := Nat.le_trans hN hz
        refine W.eq (g2 := F0 m 321 ls [.int (mI ((rnM (τ) (xs ((nI (7 * t)) + 1).toNatClampNeg)).2) 11)]) rfl ?_
        refine lv_iload hx hb d_La_law_321 (lv_at hl 1 rfl) ?_
        refine lv_icmp_eq (tgt := 328) hx hb d_La_law_323 (by decide) (fun c323 => ?_) (fun c323 => ?_)
        · refine lv_iload hx hb d_La_law_328 (lv_at hl 1 rfl) ?_
          refine lv_if_ne (tgt := 345) hx hb d_La_law_330 (by decide) (fun c330 => ?_) (fun c330 => ?_)
          · refine lv_goto (tgt := 664) hx hb d_La_law_345 (by decide) ?_
            refine lv_iinc (v := ((nI (7 * t)) + 7)) (lv' := [(5, .int ((nI (7 * t)) + 7)), (7, .int ((rnM (τ) (xs ((nI (7 * t)) + 1).toNatClampNeg)).1)), (6, .int r1), (0, .ref b), (1, .ref (gad Gc 0)), (2, .ref (gad Gm 20)), (3, .ref oa), (4, .ref ob)]) hx hb d_La_law_664 hl (k := 2) rfl rfl (by decide) rfl (fun ls hl => ?_)
            refine lv_goto (tgt := 28) hx hb d_La_law_667 (by decide) ?_
            have hl9 : lv_has ls 9 [(5, .int (nI (7 * (t + 1)))), (0, .ref b), (1, .ref (gad Gc 0)), (2, .ref (gad Gm 20)), (3, .ref oa), (4, .ref ob)] := by rw [show nI (7 * (t + 1)) = nI (7 * t) + nI 7 by rw [nI_add]; rfl]; exact lv_sub hl [0, 3, 4, 5, 6, 7] rfl
            exact ih (t + 1) uc ((rnM (τ) (xs ((nI (7 * t)) + 1).toNatClampNeg)).2) H locs (cells + 1) (slots + 6) ls f9 f2 (by omega) (by omega) ((c_run hR hd hcl).2.1.le (by omega)) hPc hPm hO1 hO2 hS hN hcs hl9
          · refine lv_aload_n hx hb d_La_law_333 rfl (lv_at hl 6 rfl) ?_
            refine lv_iconst (v := 0) hx hb d_La_law_334 (by decide) ?_
            refine va_lald (f := f9) hx hb hKc hO1 0 4 rfl rfl (vp_in_nI (n := 0) (by decide) (by decide)) d_La_law_335 ?_
            refine lv_iload hx hb d_La_law_336 (lv_at hl 0 rfl) ?_
            refine lv_i2l (v := ((rnM (τ) (xs ((nI (7 * t)) + 1).toNatClampNeg)).1).toInt64) hx hb d_La_law_338 rfl ?_
            refine W.lcmp hx hb d_La_law_339 ?_
            refine lv_if_eq (tgt := 345) hx hb d_La_law_340 (by decide) (fun c340 => ?_) (fun c340 => ?_)
            · refine lv_goto (tgt := 664) hx hb d_La_law_345 (by decide) ?_
              refine lv_iinc (v := ((nI (7 * t)) + 7)) (lv' := [(5, .int ((nI (7 * t)) + 7)), (7, .int ((rnM (τ) (xs ((nI (7 * t)) + 1).toNatClampNeg)).1)), (6, .int r1), (0, .ref b), (1, .ref (gad Gc 0)), (2, .ref (gad Gm 20)), (3, .ref oa), (4, .ref ob)]) hx hb d_La_law_664 hl (k := 2) rfl rfl (by decide) rfl (fun ls hl => ?_)
              refine lv_goto (tgt := 28) hx hb d_La_law_667 (by decide) ?_
              have hl9 : lv_has ls 9 [(5, .int (nI (7 * (t + 1)))), (0, .ref b), (1, .ref (gad Gc 0)), (2, .ref (gad Gm 20)), (3, .ref oa), (4, .ref ob)] := by rw [show nI (7 * (t + 1)) = nI (7 * t) + nI 7 by rw [nI_add]; rfl]; exact lv_sub hl [0, 3, 4, 5, 6, 7] rfl
              exact ih (t + 1) uc ((rnM (τ) (xs ((nI (7 * t)) + 1).toNatClampNeg)).2) H locs (cells + 1) (slots + 6) ls f9 f2 (by omega) (by omega) ((c_run hR hd hcl).2.1.le (by omega)) hPc hPm hO1 hO2 hS hN hcs hl9
            · exact absurd (by rw [show f9 (Int32.toNatClampNeg 0) = _ from (c_run hR hd hcl).2.2 c330]; exact lg_self _) c340
        · exact absurd (c_run hR hd hcl).1 c323
      by_cases c45_4 : ((xs (nI (7 * t)).toNatClampNeg) &&& 15) = 4
      · refine lv_tableIn (tgt := 348) hx hb d_La_law_45 (by rw [c45_4]; decide) (by rw [c45_4]; decide) (by rw [c45_4]; rfl) (by decide) ?_
        refine lv_aload_n hx hb d_La_law_348 rfl (lv_at hl 2 rfl) ?_
        refine cx_V (A0 := fun q : Nat => s.heap.size ≤ q) (n := 0) (C := R_Pc) (As := []) (rest := []) ⟨hx, hb, hml, hown, fun _ h9 => nomatch h9⟩ (K_Pc_schedule gc σ hR.2.2.2) (k_216 hT) (k_217 hT) (k_218 hT) (k_219 hT) (k_1 hT) rfl (by decide +kernel) (va_recv hKc hPc (ci := 6) (q0 := 0) rfl rfl) (hC9 hS hN hPc) ⟨by decide, by decide⟩ ⟨by have := hcs.1; show _ ≤ 629890; omega, by have := hcs.2; show _ ≤ 7206433; omega⟩ hl.1 (Nat.le_of_ble_eq_true rfl) d_La_law_349 hAc hS (fun _ _ _ _ _ _ _ h9 => h9.elim) (fun v t9 H locs ht9 hRt hz hk hS => ?_)
        obtain ⟨r9, uc, rfl, ⟨er, eu⟩, hPc⟩ := hRt
        subst er
        rw [eu, ht9] at hPc
        have hPm := keepW hPm (fun k q hq => (eM9 _ k q hq).1) hk
        have hO1 := keepW hO1 (one_out hca) hk
        have hO2 := keepW hO2 (one_out hcb) hk
        have hN := Nat.le_trans hN hz
        refine W.eq (g2 := F0 m 352 ls [.int (nI (scC σ).2.2.2)]) rfl ?_
        refine lv_aload_n hx hb d_La_law_352 rfl (lv_at hl 3 rfl) ?_
        refine cx_V (A0 := fun q : Nat => s.heap.size ≤ q) (n := 0) (C := R_Mo) (As := []) (rest := [.int (nI (scC σ).2.2.2)]) ⟨hx, hb, hml, hown, fun _ h9 => nomatch h9⟩ (K_Mo_schedule gm (τ)) (k_743 hT) (k_744 hT) (k_745 hT) (k_746 hT) (k_9 hT) rfl (by decide +kernel) (va_recv hKm hPm (ci := 7) (q0 := 0) rfl rfl) (hM9 hS hN hPm) ⟨by decide, by decide⟩ ⟨by have := hcs.1; show _ ≤ 629890; omega, by have := hcs.2; show _ ≤ 7206433; omega⟩ hl.1 (Nat.le_of_ble_eq_true rfl) d_La_law_353 hAm hS (fun _ _ _ _ _ _ _ h9 => h9.elim) (fun v t9 H locs ht9 hRt hz hk hS => ?_)
        obtain ⟨r9, um, rfl, ⟨er, eu⟩, hPm⟩ := hRt
        subst er
        rw [ht9] at hPm
        have hPc := keepW hPc (eC9 _) hk
        have hO1 := keepW hO1 (one_out hma) hk
        have hO2 := keepW hO2 (one_out hmb) hk
        have hN := Nat.le_trans hN hz
        refine W.eq (g2 := F0 m 356 ls [.int (nI (schX (τ)).2.2.2), .int (nI (scC σ).2.2.2)]) rfl ?_
        refine lv_icmp_eq (tgt := 664) hx hb d_La_law_356 (by decide) (fun c356 => ?_) (fun c356 => ?_)
        · refine lv_iinc (v := ((nI (7 * t)) + 7)) (lv' := [(5, .int ((nI (7 * t)) + 7)), (0, .ref b), (1, .ref (gad Gc 0)), (2, .ref (gad Gm 20)), (3, .ref oa), (4, .ref ob)]) hx hb d_La_law_664 hl (k := 0) rfl rfl (by decide) rfl (fun ls hl => ?_)
          refine lv_goto (tgt := 28) hx hb d_La_law_667 (by decide) ?_
          have hl9 : lv_has ls 9 [(5, .int (nI (7 * (t + 1)))), (0, .ref b), (1, .ref (gad Gc 0)), (2, .ref (gad Gm 20)), (3, .ref oa), (4, .ref ob)] := by rw [show nI (7 * (t + 1)) = nI (7 * t) + nI 7 by rw [nI_add]; rfl]; exact lv_sub hl [0, 1, 2, 3, 4, 5] rfl
          exact ih (t + 1) (ccS (roS σ) (scC σ)) um H locs cells slots ls f1 f2 (by omega) (by omega) ((rel_sched hR eu).1.le (by omega)) hPc hPm hO1 hO2 hS hN ⟨by omega, by omega⟩ hl9
        · exact absurd (congrArg nI (rel_sched hR eu).2) c356
      by_cases c45_5 : ((xs (nI (7 * t)).toNatClampNeg) &&& 15) = 5
      · refine lv_tableIn (tgt := 361) hx hb d_La_law_45 (by rw [c45_5]; decide) (by rw [c45_5]; decide) (by rw [c45_5]; rfl) (by decide) ?_
        refine lv_aload_n hx hb d_La_law_361 rfl (lv_at hl 2 rfl) ?_
        refine lv_aload_n hx hb d_La_law_362 rfl (lv_at hl 1 rfl) ?_
        refine lv_iload hx hb d_La_law_363 (lv_at hl 0 rfl) ?_
        refine lv_iconst (v := 1) hx hb d_La_law_365 (by decide) ?_
        refine lv_iadd hx hb d_La_law_366 ?_
        refine va_sld hx hb hX hbl hbA hS (sidx (k := 1) (by decide) h7 hL) d_La_law_367 ?_
        refine lv_aload_n hx hb d_La_law_368 rfl (lv_at hl 4 rfl) ?_
        refine cy_S (A0 := fun q : Nat => s.heap.size ≤ q) (n := 3) (As := [.ref (gad Gc 0), .int (xs ((nI (7 * t)) + 1).toNatClampNeg), .ref oa]) (rest := []) ⟨hx, hb, hml, hown, fun _ h9 => nomatch h9⟩ (K_La_whole gc σ (xs ((nI (7 * t)) + 1).toNatClampNeg) hca f1) (k_532 hT) (k_533 hT) (k_534 hT) (k_0 hT) rfl (by decide +kernel) (fun U hU hW => ⟨hC9 hS hN hPc U hU hW, by rw [hU]; exact hO1⟩) ⟨by decide, by decide⟩ ⟨by have := hcs.1; show _ ≤ 629890; omega, by have := hcs.2; show _ ≤ 7206433; omega⟩ hl.1 (Nat.le_of_ble_eq_true rfl) d_La_law_369 (fun q h9 => h9.elim (hAc q) (fun z => by rw [z]; exact hsa)) hS (fun v t9 H locs ht9 hRt hz hk hS => ?_)
        obtain ⟨r1, uc, f9, rfl, hcl, hPc, hO1⟩ := hRt
        rw [ht9] at hPc
        rw [ht9] at hO1
        have hPm := keepW hPm (fun k q hq z => z.elim (eM9 _ k q hq).1 (eM9 _ k q hq).2) hk
        have hO2 := keepW hO2 (one_out (fun z => z.elim hcb (fun y => hab y.symm))) hk
        have hN := Nat.le_trans hN hz
        have hcs : cells + 1 ≤ 1000 + (t + 1) ∧ slots + 6 ≤ 10000 + 6 * (t + 1) := by omega
        refine W.eq (g2 := F0 m 372 ls [.int r1]) rfl ?_
        refine lv_istore (lv' := [(6, .int r1), (5, .int (nI (7 * t))), (0, .ref b), (1, .ref (gad Gc 0)), (2, .ref (gad Gm 20)), (3, .ref oa), (4, .ref ob)]) hx hb d_La_law_372 hl (by decide) rfl (fun ls hl => ?_)
        refine lv_aload_n hx hb d_La_law_374 rfl (lv_at hl 4 rfl) ?_
        refine lv_aload_n hx hb d_La_law_375 rfl (lv_at hl 2 rfl) ?_
        refine lv_iload hx hb d_La_law_376 (lv_at hl 1 rfl) ?_
        refine lv_iconst (v := 1) hx hb d_La_law_378 (by decide) ?_
        refine lv_iadd hx hb d_La_law_379 ?_
        refine va_sld hx hb hX hbl hbA hS (sidx (k := 1) (by decide) h7 hL) d_La_law_380 ?_
        refine cx_V (A0 := fun q : Nat => s.heap.size ≤ q) (n := 1) (C := R_Mo) (As := [.int (xs ((nI (7 * t)) + 1).toNatClampNeg)]) (rest := []) ⟨hx, hb, hml, hown, fun _ h9 => nomatch h9⟩ (K_Mo_whole gm (τ) (xs ((nI (7 * t)) + 1).toNatClampNeg)) (k_771 hT) (k_772 hT) (k_773 hT) (k_774 hT) (k_9 hT) rfl (by decide +kernel) (va_recv hKm hPm (ci := 7) (q0 := 0) rfl rfl) (hM9 hS hN hPm) ⟨by decide, by decide⟩ ⟨by have := hcs.1; show _ ≤ 629890; omega, by have := hcs.2; show _ ≤ 7206433; omega⟩ hl.1 (Nat.le_of_ble_eq_true rfl) d_La_law_381 hAm hS (fun _ _ _ _ _ _ _ h9 => h9.elim) (fun v t9 H locs ht9 hRt hz hk hS => ?_)
        obtain ⟨r9, um, rfl, ⟨er, eu⟩, hPm⟩ := hRt
        subst er
        rw [eu, ht9] at hPm
        have hPc := keepW hPc (eC9 _) hk
        have hO1 := keepW hO1 (one_out hma) hk
        have hO2 := keepW hO2 (one_out hmb) hk
        have hN := Nat.le_trans hN hz
        refine W.eq (g2 := F0 m 384 ls [.int (if inF (xs ((nI (7 * t)) + 1).toNatClampNeg) 0 7 then mJ (τ) 0 (ix (xs ((nI (7 * t)) + 1).toNatClampNeg)) else 0)]) rfl ?_
        refine lv_istore (lv' := [(7, .int (if inF (xs ((nI (7 * t)) + 1).toNatClampNeg) 0 7 then mJ (τ) 0 (ix (xs ((nI (7 * t)) + 1).toNatClampNeg)) else 0)), (6, .int r1), (5, .int (nI (7 * t))), (0, .ref b), (1, .ref (gad Gc 0)), (2, .ref (gad Gm 20)), (3, .ref oa), (4, .ref ob)]) hx hb d_La_law_384 hl (by decide) rfl (fun ls hl => ?_)
        refine lv_aload_n hx hb d_La_law_386 rfl (lv_at hl 5 rfl) ?_
        refine cx_V (A0 := fun q : Nat => s.heap.size ≤ q) (n := 0) (C := R_Mo) (As := []) (rest := []) ⟨hx, hb, hml, hown, fun _ h9 => nomatch h9⟩ (K_Mo_thrown gm (bdF (τ) (inF (xs ((nI (7 * t)) + 1).toNatClampNeg) 0 7))) (k_658 hT) (k_659 hT) (k_660 hT) (k_661 hT) (k_9 hT) rfl (by decide +kernel) (va_recv hKm hPm (ci := 7) (q0 := 0) rfl rfl) (hM9 hS hN hPm) ⟨by decide, by decide⟩ ⟨by have := hcs.1; show _ ≤ 629890; omega, by have := hcs.2; show _ ≤ 7206433; omega⟩ hl.1 (Nat.le_of_ble_eq_true rfl) d_La_law_387 hAm hS (fun _ _ _ _ _ _ _ h9 => h9.elim) (fun v t9 H locs ht9 hRt hz hk hS => ?_)
        obtain ⟨r9, um, rfl, ⟨er, eu⟩, hPm⟩ := hRt
        subst er
        rw [eu, ht9] at hPm
        have hPc := keepW hPc (eC9 _) hk
        have hO1 := keepW hO1 (one_out hma) hk
        have hO2 := keepW hO2 (one_out hmb) hk
        have hN := Nat.le_trans hN hz
        refine W.eq (g2 := F0 m 390 ls [.int (mI (bdF (τ) (inF (xs ((nI (7 * t)) + 1).toNatClampNeg) 0 7)) 11)]) rfl ?_
        refine lv_iload hx hb d_La_law_390 (lv_at hl 1 rfl) ?_
        refine lv_icmp_eq (tgt := 397) hx hb d_La_law_392 (by decide) (fun c392 => ?_) (fun c392 => ?_)
        · refine lv_iload hx hb d_La_law_397 (lv_at hl 1 rfl) ?_
          refine lv_if_ne (tgt := 414) hx hb d_La_law_399 (by decide) (fun c399 => ?_) (fun c399 => ?_)
          · refine lv_goto (tgt := 664) hx hb d_La_law_414 (by decide) ?_
            refine lv_iinc (v := ((nI (7 * t)) + 7)) (lv' := [(5, .int ((nI (7 * t)) + 7)), (7, .int (if inF (xs ((nI (7 * t)) + 1).toNatClampNeg) 0 7 then mJ (τ) 0 (ix (xs ((nI (7 * t)) + 1).toNatClampNeg)) else 0)), (6, .int r1), (0, .ref b), (1, .ref (gad Gc 0)), (2, .ref (gad Gm 20)), (3, .ref oa), (4, .ref ob)]) hx hb d_La_law_664 hl (k := 2) rfl rfl (by decide) rfl (fun ls hl => ?_)
            refine lv_goto (tgt := 28) hx hb d_La_law_667 (by decide) ?_
            have hl9 : lv_has ls 9 [(5, .int (nI (7 * (t + 1)))), (0, .ref b), (1, .ref (gad Gc 0)), (2, .ref (gad Gm 20)), (3, .ref oa), (4, .ref ob)] := by rw [show nI (7 * (t + 1)) = nI (7 * t) + nI 7 by rw [nI_add]; rfl]; exact lv_sub hl [0, 3, 4, 5, 6, 7] rfl
            exact ih (t + 1) uc (bdF (τ) (inF (xs ((nI (7 * t)) + 1).toNatClampNeg) 0 7)) H locs (cells + 1) (slots + 6) ls f9 f2 (by omega) (by omega) ((c_get (z := (0 : Int32).toInt64) hR (congrArg Int32.toInt64 (congrFun (hR.1.2.1 0 (by omega)) (ix (xs ((nI (7 * t)) + 1).toNatClampNeg)))) hcl).2.1.le (by omega)) hPc hPm hO1 hO2 hS hN hcs hl9
          · refine lv_aload_n hx hb d_La_law_402 rfl (lv_at hl 6 rfl) ?_
            refine lv_iconst (v := 0) hx hb d_La_law_403 (by decide) ?_
            refine va_lald (f := f9) hx hb hKc hO1 0 4 rfl rfl (vp_in_nI (n := 0) (by decide) (by decide)) d_La_law_404 ?_
            refine lv_iload hx hb d_La_law_405 (lv_at hl 0 rfl) ?_
            refine lv_i2l (v := ((if inF (xs ((nI (7 * t)) + 1).toNatClampNeg) 0 7 then mJ (τ) 0 (ix (xs ((nI (7 * t)) + 1).toNatClampNeg)) else 0)).toInt64) hx hb d_La_law_407 rfl ?_
            refine W.lcmp hx hb d_La_law_408 ?_
            refine lv_if_eq (tgt := 414) hx hb d_La_law_409 (by decide) (fun c409 => ?_) (fun c409 => ?_)
            · refine lv_goto (tgt := 664) hx hb d_La_law_414 (by decide) ?_
              refine lv_iinc (v := ((nI (7 * t)) + 7)) (lv' := [(5, .int ((nI (7 * t)) + 7)), (7, .int (if inF (xs ((nI (7 * t)) + 1).toNatClampNeg) 0 7 then mJ (τ) 0 (ix (xs ((nI (7 * t)) + 1).toNatClampNeg)) else 0)), (6, .int r1), (0, .ref b), (1, .ref (gad Gc 0)), (2, .ref (gad Gm 20)), (3, .ref oa), (4, .ref ob)]) hx hb d_La_law_664 hl (k := 2) rfl rfl (by decide) rfl (fun ls hl => ?_)
              refine lv_goto (tgt := 28) hx hb d_La_law_667 (by decide) ?_
              have hl9 : lv_has ls 9 [(5, .int (nI (7 * (t + 1)))), (0, .ref b), (1, .ref (gad Gc 0)), (2, .ref (gad Gm 20)), (3, .ref oa), (4, .ref ob)] := by rw [show nI (7 * (t + 1)) = nI (7 * t) + nI 7 by rw [nI_add]; rfl]; exact lv_sub hl [0, 3, 4, 5, 6, 7] rfl
              exact ih (t + 1) uc (bdF (τ) (inF (xs ((nI (7 * t)) + 1).toNatClampNeg) 0 7)) H locs (cells + 1) (slots + 6) ls f9 f2 (by omega) (by omega) ((c_get (z := (0 : Int32).toInt64) hR (congrArg Int32.toInt64 (congrFun (hR.1.2.1 0 (by omega)) (ix (xs ((nI (7 * t)) + 1).toNatClampNeg)))) hcl).2.1.le (by omega)) hPc hPm hO1 hO2 hS hN hcs hl9
            · exact absurd (by rw [show f9 (Int32.toNatClampNeg 0) = _ from ((c_get (z := (0 : Int32).toInt64) hR (congrArg Int32.toInt64 (congrFun (hR.1.2.1 0 (by omega)) (ix (xs ((nI (7 * t)) + 1).toNatClampNeg)))) hcl).2.2 c399).trans (ite_t64 _ _ _)]; exact lg_self _) c409
        · exact absurd (c_get (z := (0 : Int32).toInt64) hR (congrArg Int32.toInt64 (congrFun (hR.1.2.1 0 (by omega)) (ix (xs ((nI (7 * t)) + 1).toNatClampNeg)))) hcl).1 c392
      by_cases c45_6 : ((xs (nI (7 * t)).toNatClampNeg) &&& 15) = 6
      · refine lv_tableIn (tgt := 417) hx hb d_La_law_45 (by rw [c45_6]; decide) (by rw [c45_6]; decide) (by rw [c45_6]; rfl) (by decide) ?_
        refine lv_aload_n hx hb d_La_law_417 rfl (lv_at hl 2 rfl) ?_
        refine lv_aload_n hx hb d_La_law_418 rfl (lv_at hl 1 rfl) ?_
        refine lv_iload hx hb d_La_law_419 (lv_at hl 0 rfl) ?_
        refine lv_iconst (v := 1) hx hb d_La_law_421 (by decide) ?_
        refine lv_iadd hx hb d_La_law_422 ?_
        refine va_sld hx hb hX hbl hbA hS (sidx (k := 1) (by decide) h7 hL) d_La_law_423 ?_
        refine lv_aload hx hb d_La_law_424 (lv_at hl 5 rfl) ?_
        refine cy_S (A0 := fun q : Nat => s.heap.size ≤ q) (n := 3) (As := [.ref (gad Gc 0), .int (xs ((nI (7 * t)) + 1).toNatClampNeg), .ref ob]) (rest := []) ⟨hx, hb, hml, hown, fun _ h9 => nomatch h9⟩ (K_La_fraction gc σ (xs ((nI (7 * t)) + 1).toNatClampNeg) hcb f2) (k_539 hT) (k_540 hT) (k_541 hT) (k_0 hT) rfl (by decide +kernel) (fun U hU hW => ⟨hC9 hS hN hPc U hU hW, by rw [hU]; exact hO2⟩) ⟨by decide, by decide⟩ ⟨by have := hcs.1; show _ ≤ 629890; omega, by have := hcs.2; show _ ≤ 7206433; omega⟩ hl.1 (Nat.le_of_ble_eq_true rfl) d_La_law_426 (fun q h9 => h9.elim (hAc q) (fun z => by rw [z]; exact hsb)) hS (fun v t9 H locs ht9 hRt hz hk hS => ?_)
        obtain ⟨r1, uc, f9, rfl, hcl, hPc, hO2⟩ := hRt
        rw [ht9] at hPc
        rw [ht9] at hO2
        have hPm := keepW hPm (fun k q hq z => z.elim (eM9 _ k q hq).1 (fun y => eMb _ k q hq y)) hk
        have hO1 := keepW hO1 (one_out (fun z => z.elim hca hab)) hk
        have hN := Nat.le_trans hN hz
        have hcs : cells + 1 ≤ 1000 + (t + 1) ∧ slots + 6 ≤ 10000 + 6 * (t + 1) := by omega
        refine W.eq (g2 := F0 m 429 ls [.int r1]) rfl ?_
        refine lv_istore (lv' := [(6, .int r1), (5, .int (nI (7 * t))), (0, .ref b), (1, .ref (gad Gc 0)), (2, .ref (gad Gm 20)), (3, .ref oa), (4, .ref ob)]) hx hb d_La_law_429 hl (by decide) rfl (fun ls hl => ?_)
        refine lv_aload_n hx hb d_La_law_431 rfl (lv_at hl 4 rfl) ?_
        refine lv_aload_n hx hb d_La_law_432 rfl (lv_at hl 2 rfl) ?_
        refine lv_iload hx hb d_La_law_433 (lv_at hl 1 rfl) ?_
        refine lv_iconst (v := 1) hx hb d_La_law_435 (by decide) ?_
        refine lv_iadd hx hb d_La_law_436 ?_
        refine va_sld hx hb hX hbl hbA hS (sidx (k := 1) (by decide) h7 hL) d_La_law_437 ?_
        refine cx_V (A0 := fun q : Nat => s.heap.size ≤ q) (n := 1) (C := R_Mo) (As := [.int (xs ((nI (7 * t)) + 1).toNatClampNeg)]) (rest := []) ⟨hx, hb, hml, hown, fun _ h9 => nomatch h9⟩ (K_Mo_fraction gm (τ) (xs ((nI (7 * t)) + 1).toNatClampNeg)) (k_775 hT) (k_776 hT) (k_777 hT) (k_778 hT) (k_9 hT) rfl (by decide +kernel) (va_recv hKm hPm (ci := 7) (q0 := 0) rfl rfl) (hM9 hS hN hPm) ⟨by decide, by decide⟩ ⟨by have := hcs.1; show _ ≤ 629890; omega, by have := hcs.2; show _ ≤ 7206433; omega⟩ hl.1 (Nat.le_of_ble_eq_true rfl) d_La_law_438 hAm hS (fun _ _ _ _ _ _ _ h9 => h9.elim) (fun v t9 H locs ht9 hRt hz hk hS => ?_)
        obtain ⟨r9, um, rfl, ⟨er, eu⟩, hPm⟩ := hRt
        subst er
        rw [eu, ht9] at hPm
        have hPc := keepW hPc (eC9 _) hk
        have hO1 := keepW hO1 (one_out hma) hk
        have hO2 := keepW hO2 (one_out hmb) hk
        have hN := Nat.le_trans hN hz
        refine W.eq (g2 := F0 m 441 ls [.double (if inF (xs ((nI (7 * t)) + 1).toNatClampNeg) 0 3 then mF (τ) 1 (ix (xs ((nI (7 * t)) + 1).toNatClampNeg)) else FP.dconst0)]) rfl ?_
        refine lv_dstore (lv' := [(7, .double (if inF (xs ((nI (7 * t)) + 1).toNatClampNeg) 0 3 then mF (τ) 1 (ix (xs ((nI (7 * t)) + 1).toNatClampNeg)) else FP.dconst0)), (6, .int r1), (5, .int (nI (7 * t))), (0, .ref b), (1, .ref (gad Gc 0)), (2, .ref (gad Gm 20)), (3, .ref oa), (4, .ref ob)]) hx hb d_La_law_441 hl (by decide) rfl (fun ls hl => ?_)
        refine lv_aload_n hx hb d_La_law_443 rfl (lv_at hl 5 rfl) ?_
        refine cx_V (A0 := fun q : Nat => s.heap.size ≤ q) (n := 0) (C := R_Mo) (As := []) (rest := []) ⟨hx, hb, hml, hown, fun _ h9 => nomatch h9⟩ (K_Mo_thrown gm (bdF (τ) (inF (xs ((nI (7 * t)) + 1).toNatClampNeg) 0 3))) (k_658 hT) (k_659 hT) (k_660 hT) (k_661 hT) (k_9 hT) rfl (by decide +kernel) (va_recv hKm hPm (ci := 7) (q0 := 0) rfl rfl) (hM9 hS hN hPm) ⟨by decide, by decide⟩ ⟨by have := hcs.1; show _ ≤ 629890; omega, by have := hcs.2; show _ ≤ 7206433; omega⟩ hl.1 (Nat.le_of_ble_eq_true rfl) d_La_law_444 hAm hS (fun _ _ _ _ _ _ _ h9 => h9.elim) (fun v t9 H locs ht9 hRt hz hk hS => ?_)
        obtain ⟨r9, um, rfl, ⟨er, eu⟩, hPm⟩ := hRt
        subst er
        rw [eu, ht9] at hPm
        have hPc := keepW hPc (eC9 _) hk
        have hO1 := keepW hO1 (one_out hma) hk
        have hO2 := keepW hO2 (one_out hmb) hk
        have hN := Nat.le_trans hN hz
        refine W.eq (g2 := F0 m 447 ls [.int (mI (bdF (τ) (inF (xs ((nI (7 * t)) + 1).toNatClampNeg) 0 3)) 11)]) rfl ?_
        refine lv_iload hx hb d_La_law_447 (lv_at hl 1 rfl) ?_
        refine lv_icmp_eq (tgt := 454) hx hb d_La_law_449 (by decide) (fun c449 => ?_) (fun c449 => ?_)
        · refine lv_iload hx hb d_La_law_454 (lv_at hl 1 rfl) ?_
          refine lv_if_ne (tgt := 491) hx hb d_La_law_456 (by decide) (fun c456 => ?_) (fun c456 => ?_)
          · refine lv_goto (tgt := 664) hx hb d_La_law_491 (by decide) ?_
            refine lv_iinc (v := ((nI (7 * t)) + 7)) (lv' := [(5, .int ((nI (7 * t)) + 7)), (7, .double (if inF (xs ((nI (7 * t)) + 1).toNatClampNeg) 0 3 then mF (τ) 1 (ix (xs ((nI (7 * t)) + 1).toNatClampNeg)) else FP.dconst0)), (6, .int r1), (0, .ref b), (1, .ref (gad Gc 0)), (2, .ref (gad Gm 20)), (3, .ref oa), (4, .ref ob)]) hx hb d_La_law_664 hl (k := 2) rfl rfl (by decide) rfl (fun ls hl => ?_)
            refine lv_goto (tgt := 28) hx hb d_La_law_667 (by decide) ?_
            have hl9 : lv_has ls 9 [(5, .int (nI (7 * (t + 1)))), (0, .ref b), (1, .ref (gad Gc 0)), (2, .ref (gad Gm 20)), (3, .ref oa), (4, .ref ob)] := by rw [show nI (7 * (t + 1)) = nI (7 * t) + nI 7 by rw [nI_add]; rfl]; exact lv_sub hl [0, 3, 4, 5, 6, 7] rfl
            exact ih (t + 1) uc (bdF (τ) (inF (xs ((nI (7 * t)) + 1).toNatClampNeg) 0 3)) H locs (cells + 1) (slots + 6) ls f1 f9 (by omega) (by omega) ((c_get (z := FP.dconst0) hR (congrFun hR.1.2.2.2.2 (ix (xs ((nI (7 * t)) + 1).toNatClampNeg))) hcl).2.1.le (by omega)) hPc hPm hO1 hO2 hS hN hcs hl9
          · refine lv_aload hx hb d_La_law_459 (lv_at hl 7 rfl) ?_
            refine lv_iconst (v := 0) hx hb d_La_law_461 (by decide) ?_
            refine va_dald (f := f9) hx hb hKc hO2 0 1 rfl rfl (vp_in_nI (n := 0) (by decide) (by decide)) d_La_law_462 ?_
            refine lv_dload hx hb d_La_law_463 (lv_at hl 0 rfl) ?_
            refine lv_dcmp hx hb d_La_law_465 ?_
            refine lv_if_eq (tgt := 491) hx hb d_La_law_466 (by decide) (fun c466 => ?_) (fun c466 => ?_)
            · refine lv_goto (tgt := 664) hx hb d_La_law_491 (by decide) ?_
              refine lv_iinc (v := ((nI (7 * t)) + 7)) (lv' := [(5, .int ((nI (7 * t)) + 7)), (7, .double (if inF (xs ((nI (7 * t)) + 1).toNatClampNeg) 0 3 then mF (τ) 1 (ix (xs ((nI (7 * t)) + 1).toNatClampNeg)) else FP.dconst0)), (6, .int r1), (0, .ref b), (1, .ref (gad Gc 0)), (2, .ref (gad Gm 20)), (3, .ref oa), (4, .ref ob)]) hx hb d_La_law_664 hl (k := 2) rfl rfl (by decide) rfl (fun ls hl => ?_)
              refine lv_goto (tgt := 28) hx hb d_La_law_667 (by decide) ?_
              have hl9 : lv_has ls 9 [(5, .int (nI (7 * (t + 1)))), (0, .ref b), (1, .ref (gad Gc 0)), (2, .ref (gad Gm 20)), (3, .ref oa), (4, .ref ob)] := by rw [show nI (7 * (t + 1)) = nI (7 * t) + nI 7 by rw [nI_add]; rfl]; exact lv_sub hl [0, 3, 4, 5, 6, 7] rfl
              exact ih (t + 1) uc (bdF (τ) (inF (xs ((nI (7 * t)) + 1).toNatClampNeg) 0 3)) H locs (cells + 1) (slots + 6) ls f1 f9 (by omega) (by omega) ((c_get (z := FP.dconst0) hR (congrFun hR.1.2.2.2.2 (ix (xs ((nI (7 * t)) + 1).toNatClampNeg))) hcl).2.1.le (by omega)) hPc hPm hO1 hO2 hS hN hcs hl9
            · exact absurd (by rw [show f9 (Int32.toNatClampNeg 0) = _ from (c_get (z := FP.dconst0) hR (congrFun hR.1.2.2.2.2 (ix (xs ((nI (7 * t)) + 1).toNatClampNeg))) hcl).2.2 c456]; exact dc_self (fin_get (fun h9 => hR.mwf.2.2.2 _ (vp_lt (inF_in (h := 3) (by decide) h9))))) c466
        · exact absurd (c_get (z := FP.dconst0) hR (congrFun hR.1.2.2.2.2 (ix (xs ((nI (7 * t)) + 1).toNatClampNeg))) hcl).1 c449
      by_cases c45_7 : ((xs (nI (7 * t)).toNatClampNeg) &&& 15) = 7
      · refine lv_tableIn (tgt := 494) hx hb d_La_law_45 (by rw [c45_7]; decide) (by rw [c45_7]; decide) (by rw [c45_7]; rfl) (by decide) ?_
        refine lv_aload_n hx hb d_La_law_494 rfl (lv_at hl 2 rfl) ?_
        refine lv_aload_n hx hb d_La_law_495 rfl (lv_at hl 1 rfl) ?_
        refine lv_iload hx hb d_La_law_496 (lv_at hl 0 rfl) ?_
        refine lv_iconst (v := 1) hx hb d_La_law_498 (by decide) ?_
        refine lv_iadd hx hb d_La_law_499 ?_
        refine va_sld hx hb hX hbl hbA hS (sidx (k := 1) (by decide) h7 hL) d_La_law_500 ?_
        refine lv_aload hx hb d_La_law_501 (lv_at hl 5 rfl) ?_
        refine cy_S (A0 := fun q : Nat => s.heap.size ≤ q) (n := 3) (As := [.ref (gad Gc 0), .int (xs ((nI (7 * t)) + 1).toNatClampNeg), .ref ob]) (rest := []) ⟨hx, hb, hml, hown, fun _ h9 => nomatch h9⟩ (K_La_memory gc σ (xs ((nI (7 * t)) + 1).toNatClampNeg) hcb f2) (k_546 hT) (k_547 hT) (k_548 hT) (k_0 hT) rfl (by decide +kernel) (fun U hU hW => ⟨hC9 hS hN hPc U hU hW, by rw [hU]; exact hO2⟩) ⟨by decide, by decide⟩ ⟨by have := hcs.1; show _ ≤ 629890; omega, by have := hcs.2; show _ ≤ 7206433; omega⟩ hl.1 (Nat.le_of_ble_eq_true rfl) d_La_law_503 (fun q h9 => h9.elim (hAc q) (fun z => by rw [z]; exact hsb)) hS (fun v t9 H locs ht9 hRt hz hk hS => ?_)
        obtain ⟨r1, uc, f9, rfl, hcl, hPc, hO2⟩ := hRt
        rw [ht9] at hPc
        rw [ht9] at hO2
        have hPm := keepW hPm (fun k q hq z => z.elim (eM9 _ k q hq).1 (fun y => eMb _ k q hq y)) hk
        have hO1 := keepW hO1 (one_out (fun z => z.elim hca hab)) hk
        have hN := Nat.le_trans hN hz
        have hcs : cells + 1 ≤ 1000 + (t + 1) ∧ slots + 6 ≤ 10000 + 6 * (t + 1) := by omega
        refine W.eq (g2 := F0 m 506 ls [.int r1]) rfl ?_
        refine lv_istore (lv' := [(6, .int r1), (5, .int (nI (7 * t))), (0, .ref b), (1, .ref (gad Gc 0)), (2, .ref (gad Gm 20)), (3, .ref oa), (4, .ref ob)]) hx hb d_La_law_506 hl (by decide) rfl (fun ls hl => ?_)
        refine lv_aload_n hx hb d_La_law_508 rfl (lv_at hl 4 rfl) ?_
        refine lv_aload_n hx hb d_La_law_509 rfl (lv_at hl 2 rfl) ?_
        refine lv_iload hx hb d_La_law_510 (lv_at hl 1 rfl) ?_
        refine lv_iconst (v := 1) hx hb d_La_law_512 (by decide) ?_
        refine lv_iadd hx hb d_La_law_513 ?_
        refine va_sld hx hb hX hbl hbA hS (sidx (k := 1) (by decide) h7 hL) d_La_law_514 ?_
        refine cx_V (A0 := fun q : Nat => s.heap.size ≤ q) (n := 1) (C := R_Mo) (As := [.int (xs ((nI (7 * t)) + 1).toNatClampNeg)]) (rest := []) ⟨hx, hb, hml, hown, fun _ h9 => nomatch h9⟩ (K_Mo_memory gm (τ) (xs ((nI (7 * t)) + 1).toNatClampNeg)) (k_779 hT) (k_780 hT) (k_781 hT) (k_782 hT) (k_9 hT) rfl (by decide +kernel) (va_recv hKm hPm (ci := 7) (q0 := 0) rfl rfl) (hM9 hS hN hPm) ⟨by decide, by decide⟩ ⟨by have := hcs.1; show _ ≤ 629890; omega, by have := hcs.2; show _ ≤ 7206433; omega⟩ hl.1 (Nat.le_of_ble_eq_true rfl) d_La_law_515 hAm hS (fun _ _ _ _ _ _ _ h9 => h9.elim) (fun v t9 H locs ht9 hRt hz hk hS => ?_)
        obtain ⟨r9, um, rfl, ⟨er, eu⟩, hPm⟩ := hRt
        subst er
        rw [eu, ht9] at hPm
        have hPc := keepW hPc (eC9 _) hk
        have hO1 := keepW hO1 (one_out hma) hk
        have hO2 := keepW hO2 (one_out hmb) hk
        have hN := Nat.le_trans hN hz
        refine W.eq (g2 := F0 m 518 ls [.double (if inF (xs ((nI (7 * t)) + 1).toNatClampNeg) 0 47 then mF (τ) 0 (ix (xs ((nI (7 * t)) + 1).toNatClampNeg)) else FP.dconst0)]) rfl ?_
        refine lv_dstore (lv' := [(7, .double (if inF (xs ((nI (7 * t)) + 1).toNatClampNeg) 0 47 then mF (τ) 0 (ix (xs ((nI (7 * t)) + 1).toNatClampNeg)) else FP.dconst0)), (6, .int r1), (5, .int (nI (7 * t))), (0, .ref b), (1, .ref (gad Gc 0)), (2, .ref (gad Gm 20)), (3, .ref oa), (4, .ref ob)]) hx hb d_La_law_518 hl (by decide) rfl (fun ls hl => ?_)
        refine lv_aload_n hx hb d_La_law_520 rfl (lv_at hl 5 rfl) ?_
        refine cx_V (A0 := fun q : Nat => s.heap.size ≤ q) (n := 0) (C := R_Mo) (As := []) (rest := []) ⟨hx, hb, hml, hown, fun _ h9 => nomatch h9⟩ (K_Mo_thrown gm (bdF (τ) (inF (xs ((nI (7 * t)) + 1).toNatClampNeg) 0 47))) (k_658 hT) (k_659 hT) (k_660 hT) (k_661 hT) (k_9 hT) rfl (by decide +kernel) (va_recv hKm hPm (ci := 7) (q0 := 0) rfl rfl) (hM9 hS hN hPm) ⟨by decide, by decide⟩ ⟨by have := hcs.1; show _ ≤ 629890; omega, by have := hcs.2; show _ ≤ 7206433; omega⟩ hl.1 (Nat.le_of_ble_eq_true rfl) d_La_law_521 hAm hS (fun _ _ _ _ _ _ _ h9 => h9.elim) (fun v t9 H locs ht9 hRt hz hk hS => ?_)
        obtain ⟨r9, um, rfl, ⟨er, eu⟩, hPm⟩ := hRt
        subst er
        rw [eu, ht9] at hPm
        have hPc := keepW hPc (eC9 _) hk
        have hO1 := keepW hO1 (one_out hma) hk
        have hO2 := keepW hO2 (one_out hmb) hk
        have hN := Nat.le_trans hN hz
        refine W.eq (g2 := F0 m 524 ls [.int (mI (bdF (τ) (inF (xs ((nI (7 * t)) + 1).toNatClampNeg) 0 47)) 11)]) rfl ?_
        refine lv_iload hx hb d_La_law_524 (lv_at hl 1 rfl) ?_
        refine lv_icmp_eq (tgt := 531) hx hb d_La_law_526 (by decide) (fun c526 => ?_) (fun c526 => ?_)
        · refine lv_iload hx hb d_La_law_531 (lv_at hl 1 rfl) ?_
          refine lv_if_ne (tgt := 568) hx hb d_La_law_533 (by decide) (fun c533 => ?_) (fun c533 => ?_)
          · refine lv_goto (tgt := 664) hx hb d_La_law_568 (by decide) ?_
            refine lv_iinc (v := ((nI (7 * t)) + 7)) (lv' := [(5, .int ((nI (7 * t)) + 7)), (7, .double (if inF (xs ((nI (7 * t)) + 1).toNatClampNeg) 0 47 then mF (τ) 0 (ix (xs ((nI (7 * t)) + 1).toNatClampNeg)) else FP.dconst0)), (6, .int r1), (0, .ref b), (1, .ref (gad Gc 0)), (2, .ref (gad Gm 20)), (3, .ref oa), (4, .ref ob)]) hx hb d_La_law_664 hl (k := 2) rfl rfl (by decide) rfl (fun ls hl => ?_)
            refine lv_goto (tgt := 28) hx hb d_La_law_667 (by decide) ?_
            have hl9 : lv_has ls 9 [(5, .int (nI (7 * (t + 1)))), (0, .ref b), (1, .ref (gad Gc 0)), (2, .ref (gad Gm 20)), (3, .ref oa), (4, .ref ob)] := by rw [show nI (7 * (t + 1)) = nI (7 * t) + nI 7 by rw [nI_add]; rfl]; exact lv_sub hl [0, 3, 4, 5, 6, 7] rfl
            exact ih (t + 1) uc (bdF (τ) (inF (xs ((nI (7 * t)) + 1).toNatClampNeg) 0 47)) H locs (cells + 1) (slots + 6) ls f1 f9 (by omega) (by omega) ((c_get (z := FP.dconst0) hR (congrFun hR.1.2.2.2.1 (ix (xs ((nI (7 * t)) + 1).toNatClampNeg))) hcl).2.1.le (by omega)) hPc hPm hO1 hO2 hS hN hcs hl9
          · refine lv_aload hx hb d_La_law_536 (lv_at hl 7 rfl) ?_
            refine lv_iconst (v := 0) hx hb d_La_law_538 (by decide) ?_
            refine va_dald (f := f9) hx hb hKc hO2 0 1 rfl rfl (vp_in_nI (n := 0) (by decide) (by decide)) d_La_law_539 ?_
            refine lv_dload hx hb d_La_law_540 (lv_at hl 0 rfl) ?_
            refine lv_dcmp hx hb d_La_law_542 ?_
            refine lv_if_eq (tgt := 568) hx hb d_La_law_543 (by decide) (fun c543 => ?_) (fun c543 => ?_)
            · refine lv_goto (tgt := 664) hx hb d_La_law_568 (by decide) ?_
              refine lv_iinc (v := ((nI (7 * t)) + 7)) (lv' := [(5, .int ((nI (7 * t)) + 7)), (7, .double (if inF (xs ((nI (7 * t)) + 1).toNatClampNeg) 0 47 then mF (τ) 0 (ix (xs ((nI (7 * t)) + 1).toNatClampNeg)) else FP.dconst0)), (6, .int r1), (0, .ref b), (1, .ref (gad Gc 0)), (2, .ref (gad Gm 20)), (3, .ref oa), (4, .ref ob)]) hx hb d_La_law_664 hl (k := 2) rfl rfl (by decide) rfl (fun ls hl => ?_)
              refine lv_goto (tgt := 28) hx hb d_La_law_667 (by decide) ?_
              have hl9 : lv_has ls 9 [(5, .int (nI (7 * (t + 1)))), (0, .ref b), (1, .ref (gad Gc 0)), (2, .ref (gad Gm 20)), (3, .ref oa), (4, .ref ob)] := by rw [show nI (7 * (t + 1)) = nI (7 * t) + nI 7 by rw [nI_add]; rfl]; exact lv_sub hl [0, 3, 4, 5, 6, 7] rfl
              exact ih (t + 1) uc (bdF (τ) (inF (xs ((nI (7 * t)) + 1).toNatClampNeg) 0 47)) H locs (cells + 1) (slots + 6) ls f1 f9 (by omega) (by omega) ((c_get (z := FP.dconst0) hR (congrFun hR.1.2.2.2.1 (ix (xs ((nI (7 * t)) + 1).toNatClampNeg))) hcl).2.1.le (by omega)) hPc hPm hO1 hO2 hS hN hcs hl9
            · exact absurd (by rw [show f9 (Int32.toNatClampNeg 0) = _ from (c_get (z := FP.dconst0) hR (congrFun hR.1.2.2.2.1 (ix (xs ((nI (7 * t)) + 1).toNatClampNeg))) hcl).2.2 c533]; exact dc_self (fin_get (fun h9 => hR.mwf.2.2.1 _ (vp_lt (inF_in (h := 47) (by decide) h9))))) c543
        · exact absurd (c_get (z := FP.dconst0) hR (congrFun hR.1.2.2.2.1 (ix (xs ((nI (7 * t)) + 1).toNatClampNeg))) hcl).1 c526
      by_cases c45_8 : ((xs (nI (7 * t)).toNatClampNeg) &&& 15) = 8
      · refine lv_tableIn (tgt := 571) hx hb d_La_law_45 (by rw [c45_8]; decide) (by rw [c45_8]; decide) (by rw [c45_8]; rfl) (by decide) ?_
        refine lv_aload_n hx hb d_La_law_571 rfl (lv_at hl 2 rfl) ?_
        refine lv_aload_n hx hb d_La_law_572 rfl (lv_at hl 1 rfl) ?_
        refine lv_iload hx hb d_La_law_573 (lv_at hl 0 rfl) ?_
        refine lv_iconst (v := 1) hx hb d_La_law_575 (by decide) ?_
        refine lv_iadd hx hb d_La_law_576 ?_
        refine va_sld hx hb hX hbl hbA hS (sidx (k := 1) (by decide) h7 hL) d_La_law_577 ?_
        refine lv_aload_n hx hb d_La_law_578 rfl (lv_at hl 1 rfl) ?_
        refine lv_iload hx hb d_La_law_579 (lv_at hl 0 rfl) ?_
        refine lv_iconst (v := 2) hx hb d_La_law_581 (by decide) ?_
        refine lv_iadd hx hb d_La_law_582 ?_
        refine va_sld hx hb hX hbl hbA hS (sidx (k := 2) (by decide) h7 hL) d_La_law_583 ?_
        refine lv_aload_n hx hb d_La_law_584 rfl (lv_at hl 4 rfl) ?_
        refine cy_S (A0 := fun q : Nat => s.heap.size ≤ q) (n := 4) (As := [.ref (gad Gc 0), .int (xs ((nI (7 * t)) + 1).toNatClampNeg), .int (xs ((nI (7 * t)) + 2).toNatClampNeg), .ref oa]) (rest := []) ⟨hx, hb, hml, hown, fun _ h9 => nomatch h9⟩ (K_La_told gc σ (xs ((nI (7 * t)) + 1).toNatClampNeg) (xs ((nI (7 * t)) + 2).toNatClampNeg) hR.2.2.2 hca f1) (k_553 hT) (k_554 hT) (k_555 hT) (k_0 hT) rfl (by decide +kernel) (fun U hU hW => ⟨hC9 hS hN hPc U hU hW, by rw [hU]; exact hO1⟩) ⟨by decide, by decide⟩ ⟨by have := hcs.1; show _ ≤ 629890; omega, by have := hcs.2; show _ ≤ 7206433; omega⟩ hl.1 (Nat.le_of_ble_eq_true rfl) d_La_law_585 (fun q h9 => h9.elim (hAc q) (fun z => by rw [z]; exact hsa)) hS (fun v t9 H locs ht9 hRt hz hk hS => ?_)
        obtain ⟨r1, uc, f9, rfl, hcl, hPc, hO1⟩ := hRt
        rw [ht9] at hPc
        rw [ht9] at hO1
        have hPm := keepW hPm (fun k q hq z => z.elim (eM9 _ k q hq).1 (eM9 _ k q hq).2) hk
        have hO2 := keepW hO2 (one_out (fun z => z.elim hcb (fun y => hab y.symm))) hk
        have hN := Nat.le_trans hN hz
        have hcs : cells + 1 ≤ 1000 + (t + 1) ∧ slots + 6 ≤ 10000 + 6 * (t + 1) := by omega
        refine W.eq (g2 := F0 m 588 ls [.int r1]) rfl ?_
        refine lv_istore (lv' := [(6, .int r1), (5, .int (nI (7 * t))), (0, .ref b), (1, .ref (gad Gc 0)), (2, .ref (gad Gm 20)), (3, .ref oa), (4, .ref ob)]) hx hb d_La_law_588 hl (by decide) rfl (fun ls hl => ?_)
        refine lv_aload_n hx hb d_La_law_590 rfl (lv_at hl 4 rfl) ?_
        refine lv_aload_n hx hb d_La_law_591 rfl (lv_at hl 2 rfl) ?_
        refine lv_iload hx hb d_La_law_592 (lv_at hl 1 rfl) ?_
        refine lv_iconst (v := 1) hx hb d_La_law_594 (by decide) ?_
        refine lv_iadd hx hb d_La_law_595 ?_
        refine va_sld hx hb hX hbl hbA hS (sidx (k := 1) (by decide) h7 hL) d_La_law_596 ?_
        refine lv_aload_n hx hb d_La_law_597 rfl (lv_at hl 2 rfl) ?_
        refine lv_iload hx hb d_La_law_598 (lv_at hl 1 rfl) ?_
        refine lv_iconst (v := 2) hx hb d_La_law_600 (by decide) ?_
        refine lv_iadd hx hb d_La_law_601 ?_
        refine va_sld hx hb hX hbl hbA hS (sidx (k := 2) (by decide) h7 hL) d_La_law_602 ?_
        refine cx_V (A0 := fun q : Nat => s.heap.size ≤ q) (n := 2) (C := R_Mo) (As := [.int (xs ((nI (7 * t)) + 1).toNatClampNeg), .int (xs ((nI (7 * t)) + 2).toNatClampNeg)]) (rest := []) ⟨hx, hb, hml, hown, fun _ h9 => nomatch h9⟩ (K_Mo_told gm (τ) (xs ((nI (7 * t)) + 1).toNatClampNeg) (xs ((nI (7 * t)) + 2).toNatClampNeg)) (k_783 hT) (k_784 hT) (k_785 hT) (k_786 hT) (k_9 hT) rfl (by decide +kernel) (va_recv hKm hPm (ci := 7) (q0 := 0) rfl rfl) (hM9 hS hN hPm) ⟨by decide, by decide⟩ ⟨by have := hcs.1; show _ ≤ 629890; omega, by have := hcs.2; show _ ≤ 7206433; omega⟩ hl.1 (Nat.le_of_ble_eq_true rfl) d_La_law_603 hAm hS (fun _ _ _ _ _ _ _ h9 => h9.elim) (fun v t9 H locs ht9 hRt hz hk hS => ?_)
        obtain ⟨r9, um, rfl, ⟨er, eu⟩, hPm⟩ := hRt
        subst er
        rw [eu, ht9] at hPm
        have hPc := keepW hPc (eC9 _) hk
        have hO1 := keepW hO1 (one_out hma) hk
        have hO2 := keepW hO2 (one_out hmb) hk
        have hN := Nat.le_trans hN hz
        refine W.eq (g2 := F0 m 606 ls [.int (if okT (xs ((nI (7 * t)) + 1).toNatClampNeg) (xs ((nI (7 * t)) + 2).toNatClampNeg) then toldF (mq (τ) (ix (xs ((nI (7 * t)) + 1).toNatClampNeg))) (xs ((nI (7 * t)) + 2).toNatClampNeg) else 0)]) rfl ?_
        refine lv_istore (lv' := [(7, .int (if okT (xs ((nI (7 * t)) + 1).toNatClampNeg) (xs ((nI (7 * t)) + 2).toNatClampNeg) then toldF (mq (τ) (ix (xs ((nI (7 * t)) + 1).toNatClampNeg))) (xs ((nI (7 * t)) + 2).toNatClampNeg) else 0)), (6, .int r1), (5, .int (nI (7 * t))), (0, .ref b), (1, .ref (gad Gc 0)), (2, .ref (gad Gm 20)), (3, .ref oa), (4, .ref ob)]) hx hb d_La_law_606 hl (by decide) rfl (fun ls hl => ?_)
        refine lv_aload_n hx hb d_La_law_608 rfl (lv_at hl 5 rfl) ?_
        refine cx_V (A0 := fun q : Nat => s.heap.size ≤ q) (n := 0) (C := R_Mo) (As := []) (rest := []) ⟨hx, hb, hml, hown, fun _ h9 => nomatch h9⟩ (K_Mo_thrown gm (bdF (τ) (okT (xs ((nI (7 * t)) + 1).toNatClampNeg) (xs ((nI (7 * t)) + 2).toNatClampNeg)))) (k_658 hT) (k_659 hT) (k_660 hT) (k_661 hT) (k_9 hT) rfl (by decide +kernel) (va_recv hKm hPm (ci := 7) (q0 := 0) rfl rfl) (hM9 hS hN hPm) ⟨by decide, by decide⟩ ⟨by have := hcs.1; show _ ≤ 629890; omega, by have := hcs.2; show _ ≤ 7206433; omega⟩ hl.1 (Nat.le_of_ble_eq_true rfl) d_La_law_609 hAm hS (fun _ _ _ _ _ _ _ h9 => h9.elim) (fun v t9 H locs ht9 hRt hz hk hS => ?_)
        obtain ⟨r9, um, rfl, ⟨er, eu⟩, hPm⟩ := hRt
        subst er
        rw [eu, ht9] at hPm
        have hPc := keepW hPc (eC9 _) hk
        have hO1 := keepW hO1 (one_out hma) hk
        have hO2 := keepW hO2 (one_out hmb) hk
        have hN := Nat.le_trans hN hz
        refine W.eq (g2 := F0 m 612 ls [.int (mI (bdF (τ) (okT (xs ((nI (7 * t)) + 1).toNatClampNeg) (xs ((nI (7 * t)) + 2).toNatClampNeg))) 11)]) rfl ?_
        refine lv_iload hx hb d_La_law_612 (lv_at hl 1 rfl) ?_
        refine lv_icmp_eq (tgt := 619) hx hb d_La_law_614 (by decide) (fun c614 => ?_) (fun c614 => ?_)
        · refine lv_iload hx hb d_La_law_619 (lv_at hl 1 rfl) ?_
          refine lv_if_ne (tgt := 636) hx hb d_La_law_621 (by decide) (fun c621 => ?_) (fun c621 => ?_)
          · refine lv_goto (tgt := 664) hx hb d_La_law_636 (by decide) ?_
            refine lv_iinc (v := ((nI (7 * t)) + 7)) (lv' := [(5, .int ((nI (7 * t)) + 7)), (7, .int (if okT (xs ((nI (7 * t)) + 1).toNatClampNeg) (xs ((nI (7 * t)) + 2).toNatClampNeg) then toldF (mq (τ) (ix (xs ((nI (7 * t)) + 1).toNatClampNeg))) (xs ((nI (7 * t)) + 2).toNatClampNeg) else 0)), (6, .int r1), (0, .ref b), (1, .ref (gad Gc 0)), (2, .ref (gad Gm 20)), (3, .ref oa), (4, .ref ob)]) hx hb d_La_law_664 hl (k := 2) rfl rfl (by decide) rfl (fun ls hl => ?_)
            refine lv_goto (tgt := 28) hx hb d_La_law_667 (by decide) ?_
            have hl9 : lv_has ls 9 [(5, .int (nI (7 * (t + 1)))), (0, .ref b), (1, .ref (gad Gc 0)), (2, .ref (gad Gm 20)), (3, .ref oa), (4, .ref ob)] := by rw [show nI (7 * (t + 1)) = nI (7 * t) + nI 7 by rw [nI_add]; rfl]; exact lv_sub hl [0, 3, 4, 5, 6, 7] rfl
            exact ih (t + 1) uc (bdF (τ) (okT (xs ((nI (7 * t)) + 1).toNatClampNeg) (xs ((nI (7 * t)) + 2).toNatClampNeg))) H locs (cells + 1) (slots + 6) ls f9 f2 (by omega) (by omega) ((c_told hR hcl).2.1.le (by omega)) hPc hPm hO1 hO2 hS hN hcs hl9
          · refine lv_aload_n hx hb d_La_law_624 rfl (lv_at hl 6 rfl) ?_
            refine lv_iconst (v := 0) hx hb d_La_law_625 (by decide) ?_
            refine va_lald (f := f9) hx hb hKc hO1 0 4 rfl rfl (vp_in_nI (n := 0) (by decide) (by decide)) d_La_law_626 ?_
            refine lv_iload hx hb d_La_law_627 (lv_at hl 0 rfl) ?_
            refine lv_i2l (v := ((if okT (xs ((nI (7 * t)) + 1).toNatClampNeg) (xs ((nI (7 * t)) + 2).toNatClampNeg) then toldF (mq (τ) (ix (xs ((nI (7 * t)) + 1).toNatClampNeg))) (xs ((nI (7 * t)) + 2).toNatClampNeg) else 0)).toInt64) hx hb d_La_law_629 rfl ?_
            refine W.lcmp hx hb d_La_law_630 ?_
            refine lv_if_eq (tgt := 636) hx hb d_La_law_631 (by decide) (fun c631 => ?_) (fun c631 => ?_)
            · refine lv_goto (tgt := 664) hx hb d_La_law_636 (by decide) ?_
              refine lv_iinc (v := ((nI (7 * t)) + 7)) (lv' := [(5, .int ((nI (7 * t)) + 7)), (7, .int (if okT (xs ((nI (7 * t)) + 1).toNatClampNeg) (xs ((nI (7 * t)) + 2).toNatClampNeg) then toldF (mq (τ) (ix (xs ((nI (7 * t)) + 1).toNatClampNeg))) (xs ((nI (7 * t)) + 2).toNatClampNeg) else 0)), (6, .int r1), (0, .ref b), (1, .ref (gad Gc 0)), (2, .ref (gad Gm 20)), (3, .ref oa), (4, .ref ob)]) hx hb d_La_law_664 hl (k := 2) rfl rfl (by decide) rfl (fun ls hl => ?_)
              refine lv_goto (tgt := 28) hx hb d_La_law_667 (by decide) ?_
              have hl9 : lv_has ls 9 [(5, .int (nI (7 * (t + 1)))), (0, .ref b), (1, .ref (gad Gc 0)), (2, .ref (gad Gm 20)), (3, .ref oa), (4, .ref ob)] := by rw [show nI (7 * (t + 1)) = nI (7 * t) + nI 7 by rw [nI_add]; rfl]; exact lv_sub hl [0, 3, 4, 5, 6, 7] rfl
              exact ih (t + 1) uc (bdF (τ) (okT (xs ((nI (7 * t)) + 1).toNatClampNeg) (xs ((nI (7 * t)) + 2).toNatClampNeg))) H locs (cells + 1) (slots + 6) ls f9 f2 (by omega) (by omega) ((c_told hR hcl).2.1.le (by omega)) hPc hPm hO1 hO2 hS hN hcs hl9
            · exact absurd (by rw [show f9 (Int32.toNatClampNeg 0) = _ from (c_told hR hcl).2.2 c621]; exact lg_self _) c631
        · exact absurd (c_told hR hcl).1 c614
      by_cases c45_9 : ((xs (nI (7 * t)).toNatClampNeg) &&& 15) = 9
      · refine lv_tableIn (tgt := 639) hx hb d_La_law_45 (by rw [c45_9]; decide) (by rw [c45_9]; decide) (by rw [c45_9]; rfl) (by decide) ?_
        refine lv_aload_n hx hb d_La_law_639 rfl (lv_at hl 2 rfl) ?_
        refine lv_aload_n hx hb d_La_law_640 rfl (lv_at hl 1 rfl) ?_
        refine lv_iload hx hb d_La_law_641 (lv_at hl 0 rfl) ?_
        refine lv_iconst (v := 1) hx hb d_La_law_643 (by decide) ?_
        refine lv_iadd hx hb d_La_law_644 ?_
        refine va_sld hx hb hX hbl hbA hS (sidx (k := 1) (by decide) h7 hL) d_La_law_645 ?_
        refine cx_V (A0 := fun q : Nat => s.heap.size ≤ q) (n := 1) (C := R_Pc) (As := [.int (xs ((nI (7 * t)) + 1).toNatClampNeg)]) (rest := []) ⟨hx, hb, hml, hown, fun _ h9 => nomatch h9⟩ (K_Pc_count gc σ (xs ((nI (7 * t)) + 1).toNatClampNeg)) (k_282 hT) (k_283 hT) (k_284 hT) (k_285 hT) (k_1 hT) rfl (by decide +kernel) (va_recv hKc hPc (ci := 6) (q0 := 0) rfl rfl) (hC9 hS hN hPc) ⟨by decide, by decide⟩ ⟨by have := hcs.1; show _ ≤ 629890; omega, by have := hcs.2; show _ ≤ 7206433; omega⟩ hl.1 (Nat.le_of_ble_eq_true rfl) d_La_law_646 hAc hS (fun _ _ _ _ _ _ _ h9 => h9.elim) (fun v t9 H locs ht9 hRt hz hk hS => ?_)
        obtain ⟨r9, uc, rfl, ⟨er, eu⟩, hPc⟩ := hRt
        subst er
        rw [eu, ht9] at hPc
        have hPm := keepW hPm (fun k q hq => (eM9 _ k q hq).1) hk
        have hO1 := keepW hO1 (one_out hca) hk
        have hO2 := keepW hO2 (one_out hcb) hk
        have hN := Nat.le_trans hN hz
        refine W.eq (g2 := F0 m 649 ls [.int (cntF σ (xs ((nI (7 * t)) + 1).toNatClampNeg))]) rfl ?_
        refine lv_aload_n hx hb d_La_law_649 rfl (lv_at hl 3 rfl) ?_
        refine lv_aload_n hx hb d_La_law_650 rfl (lv_at hl 1 rfl) ?_
        refine lv_iload hx hb d_La_law_651 (lv_at hl 0 rfl) ?_
        refine lv_iconst (v := 1) hx hb d_La_law_653 (by decide) ?_
        refine lv_iadd hx hb d_La_law_654 ?_
        refine va_sld hx hb hX hbl hbA hS (sidx (k := 1) (by decide) h7 hL) d_La_law_655 ?_
        refine cx_V (A0 := fun q : Nat => s.heap.size ≤ q) (n := 1) (C := R_Mo) (As := [.int (xs ((nI (7 * t)) + 1).toNatClampNeg)]) (rest := [.int (cntF σ (xs ((nI (7 * t)) + 1).toNatClampNeg))]) ⟨hx, hb, hml, hown, fun _ h9 => nomatch h9⟩ (K_Mo_count gm (τ) (xs ((nI (7 * t)) + 1).toNatClampNeg)) (k_787 hT) (k_788 hT) (k_789 hT) (k_790 hT) (k_9 hT) rfl (by decide +kernel) (va_recv hKm hPm (ci := 7) (q0 := 0) rfl rfl) (hM9 hS hN hPm) ⟨by decide, by decide⟩ ⟨by have := hcs.1; show _ ≤ 629890; omega, by have := hcs.2; show _ ≤ 7206433; omega⟩ hl.1 (Nat.le_of_ble_eq_true rfl) d_La_law_656 hAm hS (fun _ _ _ _ _ _ _ h9 => h9.elim) (fun v t9 H locs ht9 hRt hz hk hS => ?_)
        obtain ⟨r9, um, rfl, ⟨er, eu⟩, hPm⟩ := hRt
        subst er
        rw [eu, ht9] at hPm
        have hPc := keepW hPc (eC9 _) hk
        have hO1 := keepW hO1 (one_out hma) hk
        have hO2 := keepW hO2 (one_out hmb) hk
        have hN := Nat.le_trans hN hz
        refine W.eq (g2 := F0 m 659 ls [.int (cnM (τ) (xs ((nI (7 * t)) + 1).toNatClampNeg)), .int (cntF σ (xs ((nI (7 * t)) + 1).toNatClampNeg))]) rfl ?_
        refine lv_icmp_eq (tgt := 664) hx hb d_La_law_659 (by decide) (fun c659 => ?_) (fun c659 => ?_)
        · refine lv_iinc (v := ((nI (7 * t)) + 7)) (lv' := [(5, .int ((nI (7 * t)) + 7)), (0, .ref b), (1, .ref (gad Gc 0)), (2, .ref (gad Gm 20)), (3, .ref oa), (4, .ref ob)]) hx hb d_La_law_664 hl (k := 0) rfl rfl (by decide) rfl (fun ls hl => ?_)
          refine lv_goto (tgt := 28) hx hb d_La_law_667 (by decide) ?_
          have hl9 : lv_has ls 9 [(5, .int (nI (7 * (t + 1)))), (0, .ref b), (1, .ref (gad Gc 0)), (2, .ref (gad Gm 20)), (3, .ref oa), (4, .ref ob)] := by rw [show nI (7 * (t + 1)) = nI (7 * t) + nI 7 by rw [nI_add]; rfl]; exact lv_sub hl [0, 1, 2, 3, 4, 5] rfl
          exact ih (t + 1) σ (tI (τ) 11 0) H locs cells slots ls f1 f2 (by omega) (by omega) ((hR.t11 0).le (by omega)) hPc hPm hO1 hO2 hS hN ⟨by omega, by omega⟩ hl9
        · exact absurd (c_count hR _) c659
      refine lv_tableOut (tgt := 664) hx hb d_La_law_45 (tsw_out (n := 10) (l := [0, 1, 2, 3, 4, 5, 6, 7, 8, 9]) (by decide) (by decide) (by simp [c45_0, c45_1, c45_2, c45_3, c45_4, c45_5, c45_6, c45_7, c45_8, c45_9])) (by decide) ?_
      refine lv_iinc (v := ((nI (7 * t)) + 7)) (lv' := [(5, .int ((nI (7 * t)) + 7)), (0, .ref b), (1, .ref (gad Gc 0)), (2, .ref (gad Gm 20)), (3, .ref oa), (4, .ref ob)]) hx hb d_La_law_664 hl (k := 0) rfl rfl (by decide) rfl (fun ls hl => ?_)
      refine lv_goto (tgt := 28) hx hb d_La_law_667 (by decide) ?_
      have hl9 : lv_has ls 9 [(5, .int (nI (7 * (t + 1)))), (0, .ref b), (1, .ref (gad Gc 0)), (2, .ref (gad Gm 20)), (3, .ref oa), (4, .ref ob)] := by rw [show nI (7 * (t + 1)) = nI (7 * t) + nI 7 by rw [nI_add]; rfl]; exact lv_sub hl [0, 1, 2, 3, 4, 5] rfl
      exact ih (t + 1) σ (τ) H locs cells slots ls f1 f2 (by omega) (by omega) (hR.le (by omega)) hPc hPm hO1 hO2 hS hN ⟨by omega, by omega⟩ hl9
