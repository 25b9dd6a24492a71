/-! CONTRACTS: PipeComputer -/
theorem vp_lt {x : Int32} {n : Nat} (h : vp_in x n) : x.toNatClampNeg < n := by
  unfold vp_in at h
  omega
theorem vp48 {x : Int32} (h0 : ¬ x < 0) (h : x < 48) : vp_in x 48 := by
  rw [vp_in_iff]
  rw [Int32.lt_iff_toInt_lt] at h0 h
  rw [Int32.toInt_zero] at h0
  have : (48 : Int32).toInt = 48 := by decide
  omega
theorem ln1 {x : Int32} (h0 : ¬ x < 0) (h : x < 48) : vp_in ((x / 4 - x / 4 / 2 * 2) * 2) 4 := by
  obtain ⟨j, hj, rfl⟩ := vp_in_of (vp48 h0 h) (by decide)
  have : ∀ j, j < 48 → vp_in ((nI j / 4 - nI j / 4 / 2 * 2) * 2) 4 := by unfold vp_in; decide
  exact this j hj
theorem ln2 {x : Int32} (h0 : ¬ x < 0) (h : x < 48) : vp_in ((x / 4 - x / 4 / 2 * 2) * 2 + 1) 4 := by
  obtain ⟨j, hj, rfl⟩ := vp_in_of (vp48 h0 h) (by decide)
  have : ∀ j, j < 48 → vp_in ((nI j / 4 - nI j / 4 / 2 * 2) * 2 + 1) 4 := by unfold vp_in; decide
  exact this j hj
set_option maxRecDepth 100000 in
theorem at_IAE_87_in : ∀ w ∈ Bundle.ownAtoms0 R_Pc 87 "java/lang/IllegalArgumentException" ["java/lang/RuntimeException", "java/lang/Exception"], (w = .isRef (.static Bundle.tN "UNASSIGNED_STACK" Bundle.steD) ∨ w = .isRef (.static Bundle.tN "SUPPRESSED_SENTINEL" Bundle.listD) ∨ w = .laysStatic Bundle.tN "UNASSIGNED_STACK" Bundle.steD ∨ w = .laysStatic Bundle.tN "SUPPRESSED_SENTINEL" Bundle.listD) ∨ (w ∈ lw_tbl ∧ tb_ok w = true) := by decide +kernel
theorem at_IAE_87 {l : Launch} {G : GT} (g : GOK l G) {σ : CS} {s : State} {args : Array Value} {H : Heap} {locs : List Loc} (hc : Cw G σ s) (hS : va_S (gA G) s.heap H locs) : ∀ U : State, U.heap = H → s.WarmedH U.vm → ∀ w ∈ Bundle.ownAtoms0 R_Pc 87 "java/lang/IllegalArgumentException" ["java/lang/RuntimeException", "java/lang/Exception"], w.before args U = true := by
  intro U hU hW w hw
  have O := hc.1.to g.2.2.2.1 hS hU hW
  obtain ⟨h1, h2, h3, h4⟩ := g.2.2.2.2.2.2.2.2.2 U args O
  rcases at_IAE_87_in w hw with (rfl | rfl | rfl | rfl) | ⟨q1, q2⟩
  · exact h1
  · exact h2
  · exact h3
  · exact h4
  · exact (g.2.1.warm O.1).w q1 q2
set_option maxHeartbeats 4000000 in
set_option maxRecDepth 100000 in
theorem K_Pc_refuseOutside {l : Launch} {G : GT} (g : GOK l G) (σ : CS) (n gr : Int32) : cx_M l y_Pc_refuseOutside (.code y_Pc_refuseOutside b_Pc_refuseOutside 2 none) 6 89 (gA G) [.int n, .int gr] (Cw G σ) (Rv G (fun u => badR n gr = false ∧ u = σ)) (Tw G (fun E u => E = "java/lang/IllegalArgumentException" ∧ badR n gr = true ∧ u = σ)) := by
  refine cx_of (by decide +kernel) ?_
  intro p e s m below meth c s₁ B hml ht hc
  have hx := B.exec
  have hb := B.bytes
  have hr := B.returns
  have hown : s.vm.findClass R_Pc = some m.cls := findClass_of_methodNamed B.named
  have hlocks := B.notSynchronized
  have hT := g.tb hc
  have hK := g.k hc
  have hD := g.d (σ := σ)
  have hS : va_S (gA G) s.heap s.heap [] := va_S.rf
  have hP := hc.2.2
  have hl := lv_entry ([.int n, .int gr]) (n := 2) (Nat.le_of_ble_eq_true rfl)
  rw [lg_entry_eq]
  generalize (lg_sl ([.int n, .int gr]) ++ List.replicate (2 - (lg_sl ([.int n, .int gr])).length) Slot.unset).toArray = ls at hl ⊢
  have hl : lv_has ls 2 [(0, .int n), (1, .int gr)] := hl
  refine lv_iload_n hx hb d_Pc_refuseOutside_0 rfl (lv_at hl 0 rfl) ?_
  refine lv_if_lt (tgt := 9) hx hb d_Pc_refuseOutside_1 (by decide) (fun c1 => ?_) (fun c1 => ?_)
  · exact cx_throw (own := R_Pc) (cls := "java/lang/IllegalArgumentException") (names := ["java/lang/RuntimeException", "java/lang/Exception"]) (ik := 85) (ic := 87) hx hb g.1 hown (by decide +kernel) (by decide +kernel) (fun U hU hW => ⟨k_297 ((g.tb hc).warm hW), k_13 ((g.tb hc).warm hW), at_IAE_87 g hc hS U hU hW⟩) hS hc.2.1 (by rw [hml]; exact hl.1) d_Pc_refuseOutside_9 d_Pc_refuseOutside_12 d_Pc_refuseOutside_13 d_Pc_refuseOutside_16 ht hlocks (by decide) (Nat.le_of_ble_eq_true rfl) (by decide) (by decide) (fun t9 _ _ hk => Tw.i (u := σ) (⟨rfl, by simp [badR, c1], rfl⟩) (hP.keep hk))
  · refine lv_iload_n hx hb d_Pc_refuseOutside_4 rfl (lv_at hl 0 rfl) ?_
    refine lv_iload_n hx hb d_Pc_refuseOutside_5 rfl (lv_at hl 1 rfl) ?_
    refine lv_icmp_le (tgt := 17) hx hb d_Pc_refuseOutside_6 (by decide) (fun c6 => ?_) (fun c6 => ?_)
    · exact end_v (u := σ) hx hb hr hlocks hS hP d_Pc_refuseOutside_17 (⟨by simp [badR, c1, c6], rfl⟩)
    · exact cx_throw (own := R_Pc) (cls := "java/lang/IllegalArgumentException") (names := ["java/lang/RuntimeException", "java/lang/Exception"]) (ik := 85) (ic := 87) hx hb g.1 hown (by decide +kernel) (by decide +kernel) (fun U hU hW => ⟨k_297 ((g.tb hc).warm hW), k_13 ((g.tb hc).warm hW), at_IAE_87 g hc hS U hU hW⟩) hS hc.2.1 (by rw [hml]; exact hl.1) d_Pc_refuseOutside_9 d_Pc_refuseOutside_12 d_Pc_refuseOutside_13 d_Pc_refuseOutside_16 ht hlocks (by decide) (Nat.le_of_ble_eq_true rfl) (by decide) (by decide) (fun t9 _ _ hk => Tw.i (u := σ) (⟨rfl, by simp [badR, c1, c6], rfl⟩) (hP.keep hk))

set_option maxHeartbeats 4000000 in
set_option maxRecDepth 100000 in
theorem K_Pc_putWhole {l : Launch} {G : GT} (g : GOK l G) (σ : CS) (r v : Int32) (h : vp_in r 8) : cx_M l y_Pc_putWhole (.code y_Pc_putWhole b_Pc_putWhole 3 none) 0 0 (gA G) [.ref (gad G 0), .int r, .int v] (Cw G σ) (Rv G (fun u => u = pwF σ r v)) (Tn) := by
  refine cx_of (by decide +kernel) ?_
  intro p e s m below meth c s₁ B hml ht hc
  have hx := B.exec
  have hb := B.bytes
  have hr := B.returns
  have hown : s.vm.findClass R_Pc = some m.cls := findClass_of_methodNamed B.named
  have hlocks := B.notSynchronized
  have hT := g.tb hc
  have hK := g.k hc
  have hD := g.d (σ := σ)
  have hS : va_S (gA G) s.heap s.heap [] := va_S.rf
  have hP := hc.2.2
  have hl := lv_entry ([.ref (gad G 0), .int r, .int v]) (n := 3) (Nat.le_of_ble_eq_true rfl)
  rw [lg_entry_eq]
  generalize (lg_sl ([.ref (gad G 0), .int r, .int v]) ++ List.replicate (3 - (lg_sl ([.ref (gad G 0), .int r, .int v])).length) Slot.unset).toArray = ls at hl ⊢
  have hl : lv_has ls 3 [(0, .ref (gad G 0)), (1, .int r), (2, .int v)] := hl
  refine lv_iload_n hx hb d_Pc_putWhole_0 rfl (lv_at hl 1 rfl) ?_
  refine lv_if_eq (tgt := 11) hx hb d_Pc_putWhole_1 (by decide) (fun c1 => ?_) (fun c1 => ?_)
  · exact end_v (u := σ) hx hb hr hlocks hS hP d_Pc_putWhole_11 (by first | (simp [pwF, cI_sI, cJ_sI, cF_sI, cP_sI, cQ_sI, cI_sJ, cJ_sJ, cF_sJ, cP_sJ, cQ_sJ, cI_sF, cJ_sF, cF_sF, cP_sF, cQ_sF, cI_sP, cJ_sP, cF_sP, cP_sP, cQ_sP, ix, m4, c1]; done) | (revert c1; simp [pwF, cI_sI, cJ_sI, cF_sI, cP_sI, cQ_sI, cI_sJ, cJ_sJ, cF_sJ, cP_sJ, cQ_sJ, cI_sF, cJ_sF, cF_sF, cP_sF, cQ_sF, cI_sP, cJ_sP, cF_sP, cP_sP, cQ_sP, ix, m4]))
  · refine lv_aload_n hx hb d_Pc_putWhole_4 rfl (lv_at hl 0 rfl) ?_
    refine va_get (D := gD G) (ci := 6) (v := .ref (gad G 3)) (C := R_Pc) (T := F_Pc) (N := 12) hx hb (wl_Pc hT) (fun _ h9 => h9) hown hK hP 0 rfl rfl 2 (by decide) (k_181 hT) (fun _ h9 => h9) rfl d_Pc_putWhole_5 ?_
    refine lv_iload_n hx hb d_Pc_putWhole_8 rfl (lv_at hl 1 rfl) ?_
    refine lv_iload_n hx hb d_Pc_putWhole_9 rfl (lv_at hl 2 rfl) ?_
    refine va_iast (f := (cJ σ 0)) hx hb hK hP hD hS 3 0 rfl rfl (h) d_Pc_putWhole_10 (fun H locs hP hD hS => ?_)
    have hP : va_P (gD G) classes (cw G (sJ σ 0 (upd (cJ σ 0) r.toNatClampNeg v))) H := hP
    have hD : va_D (gA G) (cw G (sJ σ 0 (upd (cJ σ 0) r.toNatClampNeg v))) := g.d
    exact end_v (u := (sJ σ 0 (upd (cJ σ 0) r.toNatClampNeg v))) hx hb hr hlocks hS hP d_Pc_putWhole_11 (by first | (simp [pwF, cI_sI, cJ_sI, cF_sI, cP_sI, cQ_sI, cI_sJ, cJ_sJ, cF_sJ, cP_sJ, cQ_sJ, cI_sF, cJ_sF, cF_sF, cP_sF, cQ_sF, cI_sP, cJ_sP, cF_sP, cP_sP, cQ_sP, ix, m4, c1]; done) | (revert c1; simp [pwF, cI_sI, cJ_sI, cF_sI, cP_sI, cQ_sI, cI_sJ, cJ_sJ, cF_sJ, cP_sJ, cQ_sJ, cI_sF, cJ_sF, cF_sF, cP_sF, cQ_sF, cI_sP, cJ_sP, cF_sP, cP_sP, cQ_sP, ix, m4]))

set_option maxHeartbeats 4000000 in
set_option maxRecDepth 100000 in
theorem K_Pc_jumpIsDue {l : Launch} {G : GT} (g : GOK l G) (σ : CS) {i : Nat} (hi : i < 24) (h : okQ (cQ σ i)) : cx_M l y_Pc_jumpIsDue (.code y_Pc_jumpIsDue b_Pc_jumpIsDue 3 (some .boolean)) 0 0 (gA G) [.ref (gad G 0), .ref (gia G i)] (Cw G σ) (Ri G (fun r u => r = b2i (jdF σ (cQ σ i)) ∧ u = σ)) (Tn) := by
  refine cx_of (by decide +kernel) ?_
  intro p e s m below meth c s₁ B hml ht hc
  have hx := B.exec
  have hb := B.bytes
  have hr := B.returns
  have hown : s.vm.findClass R_Pc = some m.cls := findClass_of_methodNamed B.named
  have hlocks := B.notSynchronized
  have hT := g.tb hc
  have hK := g.k hc
  have hD := g.d (σ := σ)
  have hS : va_S (gA G) s.heap s.heap [] := va_S.rf
  have hP := hc.2.2
  have hl := lv_entry ([.ref (gad G 0), .ref (gia G i)]) (n := 3) (Nat.le_of_ble_eq_true rfl)
  rw [lg_entry_eq]
  generalize (lg_sl ([.ref (gad G 0), .ref (gia G i)]) ++ List.replicate (3 - (lg_sl ([.ref (gad G 0), .ref (gia G i)])).length) Slot.unset).toArray = ls at hl ⊢
  have hl : lv_has ls 3 [(0, .ref (gad G 0)), (1, .ref (gia G i))] := hl
  refine lv_aload_n hx hb d_Pc_jumpIsDue_0 rfl (lv_at hl 0 rfl) ?_
  refine va_get (D := gD G) (ci := 6) (v := .ref (gad G 3)) (C := R_Pc) (T := F_Pc) (N := 12) hx hb (wl_Pc hT) (fun _ h9 => h9) hown hK hP 0 rfl rfl 2 (by decide) (k_181 hT) (fun _ h9 => h9) rfl d_Pc_jumpIsDue_1 ?_
  refine lv_aload_n hx hb d_Pc_jumpIsDue_4 rfl (lv_at hl 1 rfl) ?_
  refine va_get (D := gD G) (ci := 3) (v := .int (cQ σ i 2)) (C := R_In) (T := F_In) (N := 8) hx hb (wl_In hT) (fun _ h9 => h9) hown hK hP (19 + i) (cw_in hi) rfl 2 (by decide) (k_151 hT) (fun _ h9 => h9) rfl d_Pc_jumpIsDue_5 ?_
  refine va_iald (f := (cJ σ 0)) hx hb hK hP 3 0 rfl rfl (h.2.2.1) d_Pc_jumpIsDue_8 ?_
  refine lv_aload_n hx hb d_Pc_jumpIsDue_9 rfl (lv_at hl 0 rfl) ?_
  refine va_get (D := gD G) (ci := 6) (v := .ref (gad G 3)) (C := R_Pc) (T := F_Pc) (N := 12) hx hb (wl_Pc hT) (fun _ h9 => h9) hown hK hP 0 rfl rfl 2 (by decide) (k_181 hT) (fun _ h9 => h9) rfl d_Pc_jumpIsDue_10 ?_
  refine lv_aload_n hx hb d_Pc_jumpIsDue_13 rfl (lv_at hl 1 rfl) ?_
  refine va_get (D := gD G) (ci := 3) (v := .int (cQ σ i 3)) (C := R_In) (T := F_In) (N := 8) hx hb (wl_In hT) (fun _ h9 => h9) hown hK hP (19 + i) (cw_in hi) rfl 3 (by decide) (k_153 hT) (fun _ h9 => h9) rfl d_Pc_jumpIsDue_14 ?_
  refine va_iald (f := (cJ σ 0)) hx hb hK hP 3 0 rfl rfl (h.2.2.2.1) d_Pc_jumpIsDue_17 ?_
  refine lv_icmp_ne (tgt := 25) hx hb d_Pc_jumpIsDue_18 (by decide) (fun c18 => ?_) (fun c18 => ?_)
  · refine lv_iconst (v := 0) hx hb d_Pc_jumpIsDue_25 (by decide) ?_
    refine lv_istore_n (lv' := [(2, .int 0), (0, .ref (gad G 0)), (1, .ref (gia G i))]) hx hb d_Pc_jumpIsDue_26 rfl hl (by decide) rfl (fun ls hl => ?_)
    refine lv_aload_n hx hb d_Pc_jumpIsDue_27 rfl (lv_at hl 2 rfl) ?_
    refine va_get (D := gD G) (ci := 3) (v := .int (cQ σ i 0)) (C := R_In) (T := F_In) (N := 8) hx hb (wl_In hT) (fun _ h9 => h9) hown hK hP (19 + i) (cw_in hi) rfl 0 (by decide) (k_147 hT) (fun _ h9 => h9) rfl d_Pc_jumpIsDue_28 ?_
    by_cases c31_17 : (cQ σ i 0) = 17
    · refine lv_lookup (off := 25) (tgt := 56) hx hb d_Pc_jumpIsDue_31 (by decide) (by rw [c31_17]; rfl) (by decide) ?_
      refine lv_iload_n hx hb d_Pc_jumpIsDue_56 rfl (lv_at hl 0 rfl) ?_
      exact end_z (u := σ) hx hb hr hlocks hS hP d_Pc_jumpIsDue_57 rfl (⟨by simp [jdF, b2i, ix, c18, c31_17], rfl⟩)
    by_cases c31_18 : (cQ σ i 0) = 18
    · refine lv_lookup (off := 27) (tgt := 58) hx hb d_Pc_jumpIsDue_31 (by decide) (by rw [c31_18]; rfl) (by decide) ?_
      refine lv_iload_n hx hb d_Pc_jumpIsDue_58 rfl (lv_at hl 0 rfl) ?_
      refine lv_if_ne (tgt := 66) hx hb d_Pc_jumpIsDue_59 (by decide) (fun c59 => ?_) (fun c59 => ?_)
      · exact absurd rfl c59
      · refine lv_iconst (v := 1) hx hb d_Pc_jumpIsDue_62 (by decide) ?_
        refine lv_goto (tgt := 67) hx hb d_Pc_jumpIsDue_63 (by decide) ?_
        exact end_z (u := σ) hx hb hr hlocks hS hP d_Pc_jumpIsDue_67 rfl (⟨by simp [jdF, b2i, ix, c18, c31_17, c31_18], rfl⟩)
    refine lv_lookup (off := 37) (tgt := 68) hx hb d_Pc_jumpIsDue_31 (by decide) ((lv_osw c31_17 (by decide)).trans ((lv_osw c31_18 (by decide)).trans rfl)) (by decide) ?_
    refine lv_iconst (v := 1) hx hb d_Pc_jumpIsDue_68 (by decide) ?_
    exact end_z (u := σ) hx hb hr hlocks hS hP d_Pc_jumpIsDue_69 rfl (⟨by simp [jdF, b2i, ix, c18, c31_17, c31_18], rfl⟩)
  · refine lv_iconst (v := 1) hx hb d_Pc_jumpIsDue_21 (by decide) ?_
    refine lv_goto (tgt := 26) hx hb d_Pc_jumpIsDue_22 (by decide) ?_
    refine lv_istore_n (lv' := [(2, .int 1), (0, .ref (gad G 0)), (1, .ref (gia G i))]) hx hb d_Pc_jumpIsDue_26 rfl hl (by decide) rfl (fun ls hl => ?_)
    refine lv_aload_n hx hb d_Pc_jumpIsDue_27 rfl (lv_at hl 2 rfl) ?_
    refine va_get (D := gD G) (ci := 3) (v := .int (cQ σ i 0)) (C := R_In) (T := F_In) (N := 8) hx hb (wl_In hT) (fun _ h9 => h9) hown hK hP (19 + i) (cw_in hi) rfl 0 (by decide) (k_147 hT) (fun _ h9 => h9) rfl d_Pc_jumpIsDue_28 ?_
    by_cases c31_17 : (cQ σ i 0) = 17
    · refine lv_lookup (off := 25) (tgt := 56) hx hb d_Pc_jumpIsDue_31 (by decide) (by rw [c31_17]; rfl) (by decide) ?_
      refine lv_iload_n hx hb d_Pc_jumpIsDue_56 rfl (lv_at hl 0 rfl) ?_
      exact end_z (u := σ) hx hb hr hlocks hS hP d_Pc_jumpIsDue_57 rfl (⟨by simp [jdF, b2i, ix, c18, c31_17], rfl⟩)
    by_cases c31_18 : (cQ σ i 0) = 18
    · refine lv_lookup (off := 27) (tgt := 58) hx hb d_Pc_jumpIsDue_31 (by decide) (by rw [c31_18]; rfl) (by decide) ?_
      refine lv_iload_n hx hb d_Pc_jumpIsDue_58 rfl (lv_at hl 0 rfl) ?_
      refine lv_if_ne (tgt := 66) hx hb d_Pc_jumpIsDue_59 (by decide) (fun c59 => ?_) (fun c59 => ?_)
      · refine lv_iconst (v := 0) hx hb d_Pc_jumpIsDue_66 (by decide) ?_
        exact end_z (u := σ) hx hb hr hlocks hS hP d_Pc_jumpIsDue_67 rfl (⟨by simp [jdF, b2i, ix, c18, c31_17, c31_18], rfl⟩)
      · exact absurd c59 (by decide)
    refine lv_lookup (off := 37) (tgt := 68) hx hb d_Pc_jumpIsDue_31 (by decide) ((lv_osw c31_17 (by decide)).trans ((lv_osw c31_18 (by decide)).trans rfl)) (by decide) ?_
    refine lv_iconst (v := 1) hx hb d_Pc_jumpIsDue_68 (by decide) ?_
    exact end_z (u := σ) hx hb hr hlocks hS hP d_Pc_jumpIsDue_69 rfl (⟨by simp [jdF, b2i, ix, c18, c31_17, c31_18], rfl⟩)

set_option maxHeartbeats 4000000 in
set_option maxRecDepth 100000 in
theorem K_Pc_computedWhole {l : Launch} {G : GT} (g : GOK l G) (σ : CS) {i : Nat} (hi : i < 24) (h : okQ (cQ σ i)) : cx_M l y_Pc_computedWhole (.code y_Pc_computedWhole b_Pc_computedWhole 4 (some .int)) 0 0 (gA G) [.ref (gad G 0), .ref (gia G i)] (Cw G σ) (Ri G (fun r u => r = cwF σ (cQ σ i) ∧ u = σ)) (Tn) := by
  refine cx_of (by decide +kernel) ?_
  intro p e s m below meth c s₁ B hml ht hc
  have hx := B.exec
  have hb := B.bytes
  have hr := B.returns
  have hown : s.vm.findClass R_Pc = some m.cls := findClass_of_methodNamed B.named
  have hlocks := B.notSynchronized
  have hT := g.tb hc
  have hK := g.k hc
  have hD := g.d (σ := σ)
  have hS : va_S (gA G) s.heap s.heap [] := va_S.rf
  have hP := hc.2.2
  have hl := lv_entry ([.ref (gad G 0), .ref (gia G i)]) (n := 4) (Nat.le_of_ble_eq_true rfl)
  rw [lg_entry_eq]
  generalize (lg_sl ([.ref (gad G 0), .ref (gia G i)]) ++ List.replicate (4 - (lg_sl ([.ref (gad G 0), .ref (gia G i)])).length) Slot.unset).toArray = ls at hl ⊢
  have hl : lv_has ls 4 [(0, .ref (gad G 0)), (1, .ref (gia G i))] := hl
  refine lv_aload_n hx hb d_Pc_computedWhole_0 rfl (lv_at hl 0 rfl) ?_
  refine va_get (D := gD G) (ci := 6) (v := .ref (gad G 3)) (C := R_Pc) (T := F_Pc) (N := 12) hx hb (wl_Pc hT) (fun _ h9 => h9) hown hK hP 0 rfl rfl 2 (by decide) (k_181 hT) (fun _ h9 => h9) rfl d_Pc_computedWhole_1 ?_
  refine lv_aload_n hx hb d_Pc_computedWhole_4 rfl (lv_at hl 1 rfl) ?_
  refine va_get (D := gD G) (ci := 3) (v := .int (cQ σ i 2)) (C := R_In) (T := F_In) (N := 8) hx hb (wl_In hT) (fun _ h9 => h9) hown hK hP (19 + i) (cw_in hi) rfl 2 (by decide) (k_151 hT) (fun _ h9 => h9) rfl d_Pc_computedWhole_5 ?_
  refine va_iald (f := (cJ σ 0)) hx hb hK hP 3 0 rfl rfl (h.2.2.1) d_Pc_computedWhole_8 ?_
  refine lv_istore_n (lv' := [(2, .int ((cJ σ 0) (cQ σ i 2).toNatClampNeg)), (0, .ref (gad G 0)), (1, .ref (gia G i))]) hx hb d_Pc_computedWhole_9 rfl hl (by decide) rfl (fun ls hl => ?_)
  refine lv_aload_n hx hb d_Pc_computedWhole_10 rfl (lv_at hl 1 rfl) ?_
  refine va_get (D := gD G) (ci := 6) (v := .ref (gad G 3)) (C := R_Pc) (T := F_Pc) (N := 12) hx hb (wl_Pc hT) (fun _ h9 => h9) hown hK hP 0 rfl rfl 2 (by decide) (k_181 hT) (fun _ h9 => h9) rfl d_Pc_computedWhole_11 ?_
  refine lv_aload_n hx hb d_Pc_computedWhole_14 rfl (lv_at hl 2 rfl) ?_
  refine va_get (D := gD G) (ci := 3) (v := .int (cQ σ i 3)) (C := R_In) (T := F_In) (N := 8) hx hb (wl_In hT) (fun _ h9 => h9) hown hK hP (19 + i) (cw_in hi) rfl 3 (by decide) (k_153 hT) (fun _ h9 => h9) rfl d_Pc_computedWhole_15 ?_
  refine va_iald (f := (cJ σ 0)) hx hb hK hP 3 0 rfl rfl (h.2.2.2.1) d_Pc_computedWhole_18 ?_
  refine lv_istore_n (lv' := [(3, .int ((cJ σ 0) (cQ σ i 3).toNatClampNeg)), (2, .int ((cJ σ 0) (cQ σ i 2).toNatClampNeg)), (0, .ref (gad G 0)), (1, .ref (gia G i))]) hx hb d_Pc_computedWhole_19 rfl hl (by decide) rfl (fun ls hl => ?_)
  refine lv_aload_n hx hb d_Pc_computedWhole_20 rfl (lv_at hl 3 rfl) ?_
  refine va_get (D := gD G) (ci := 3) (v := .int (cQ σ i 0)) (C := R_In) (T := F_In) (N := 8) hx hb (wl_In hT) (fun _ h9 => h9) hown hK hP (19 + i) (cw_in hi) rfl 0 (by decide) (k_147 hT) (fun _ h9 => h9) rfl d_Pc_computedWhole_21 ?_
  by_cases c24_1 : (cQ σ i 0) = 1
  · refine lv_tableIn (tgt := 56) hx hb d_Pc_computedWhole_24 (by rw [c24_1]; decide) (by rw [c24_1]; decide) (by rw [c24_1]; rfl) (by decide) ?_
    refine lv_iload_n hx hb d_Pc_computedWhole_56 rfl (lv_at hl 1 rfl) ?_
    refine lv_aload_n hx hb d_Pc_computedWhole_57 rfl (lv_at hl 3 rfl) ?_
    refine va_get (D := gD G) (ci := 3) (v := .int (cQ σ i 4)) (C := R_In) (T := F_In) (N := 8) hx hb (wl_In hT) (fun _ h9 => h9) hown hK hP (19 + i) (cw_in hi) rfl 4 (by decide) (k_155 hT) (fun _ h9 => h9) rfl d_Pc_computedWhole_58 ?_
    refine lv_iadd hx hb d_Pc_computedWhole_61 ?_
    exact end_i (u := σ) hx hb hr hlocks hS hP d_Pc_computedWhole_62 (⟨by simp [cwF, ix, c24_1], rfl⟩)
  by_cases c24_2 : (cQ σ i 0) = 2
  · refine lv_tableIn (tgt := 63) hx hb d_Pc_computedWhole_24 (by rw [c24_2]; decide) (by rw [c24_2]; decide) (by rw [c24_2]; rfl) (by decide) ?_
    refine lv_iload_n hx hb d_Pc_computedWhole_63 rfl (lv_at hl 1 rfl) ?_
    refine lv_iload_n hx hb d_Pc_computedWhole_64 rfl (lv_at hl 0 rfl) ?_
    refine lv_iadd hx hb d_Pc_computedWhole_65 ?_
    exact end_i (u := σ) hx hb hr hlocks hS hP d_Pc_computedWhole_66 (⟨by simp [cwF, ix, c24_1, c24_2], rfl⟩)
  by_cases c24_3 : (cQ σ i 0) = 3
  · refine lv_tableIn (tgt := 67) hx hb d_Pc_computedWhole_24 (by rw [c24_3]; decide) (by rw [c24_3]; decide) (by rw [c24_3]; rfl) (by decide) ?_
    refine lv_iload_n hx hb d_Pc_computedWhole_67 rfl (lv_at hl 1 rfl) ?_
    refine lv_iload_n hx hb d_Pc_computedWhole_68 rfl (lv_at hl 0 rfl) ?_
    refine lv_isub hx hb d_Pc_computedWhole_69 ?_
    exact end_i (u := σ) hx hb hr hlocks hS hP d_Pc_computedWhole_70 (⟨by simp [cwF, ix, c24_1, c24_2, c24_3], rfl⟩)
  by_cases c24_4 : (cQ σ i 0) = 4
  · refine lv_tableIn (tgt := 71) hx hb d_Pc_computedWhole_24 (by rw [c24_4]; decide) (by rw [c24_4]; decide) (by rw [c24_4]; rfl) (by decide) ?_
    refine lv_iload_n hx hb d_Pc_computedWhole_71 rfl (lv_at hl 1 rfl) ?_
    refine lv_iload_n hx hb d_Pc_computedWhole_72 rfl (lv_at hl 0 rfl) ?_
    refine lv_imul hx hb d_Pc_computedWhole_73 ?_
    exact end_i (u := σ) hx hb hr hlocks hS hP d_Pc_computedWhole_74 (⟨by simp [cwF, ix, c24_1, c24_2, c24_3, c24_4], rfl⟩)
  refine lv_tableOut (tgt := 75) hx hb d_Pc_computedWhole_24 (tsw_out (n := 4) (l := [1, 2, 3, 4]) (by decide) (by decide) (by simp [c24_1, c24_2, c24_3, c24_4])) (by decide) ?_
  refine lv_iload_n hx hb d_Pc_computedWhole_75 rfl (lv_at hl 1 rfl) ?_
  refine lv_iload_n hx hb d_Pc_computedWhole_76 rfl (lv_at hl 0 rfl) ?_
  refine lv_icmp_ge (tgt := 84) hx hb d_Pc_computedWhole_77 (by decide) (fun c77 => ?_) (fun c77 => ?_)
  · refine lv_iconst (v := 0) hx hb d_Pc_computedWhole_84 (by decide) ?_
    exact end_i (u := σ) hx hb hr hlocks hS hP d_Pc_computedWhole_85 (⟨by simp [cwF, ix, c24_1, c24_2, c24_3, c24_4, c77], rfl⟩)
  · refine lv_iconst (v := 1) hx hb d_Pc_computedWhole_80 (by decide) ?_
    refine lv_goto (tgt := 85) hx hb d_Pc_computedWhole_81 (by decide) ?_
    exact end_i (u := σ) hx hb hr hlocks hS hP d_Pc_computedWhole_85 (⟨by simp [cwF, ix, c24_1, c24_2, c24_3, c24_4, c77], rfl⟩)

set_option maxRecDepth 100000 in
theorem at_AE_201_in : ∀ w ∈ Bundle.ownAtoms0 R_Pc 201 "java/lang/ArithmeticException" ["java/lang/RuntimeException", "java/lang/Exception"], (w = .isRef (.static Bundle.tN "UNASSIGNED_STACK" Bundle.steD) ∨ w = .isRef (.static Bundle.tN "SUPPRESSED_SENTINEL" Bundle.listD) ∨ w = .laysStatic Bundle.tN "UNASSIGNED_STACK" Bundle.steD ∨ w = .laysStatic Bundle.tN "SUPPRESSED_SENTINEL" Bundle.listD) ∨ (w ∈ lw_tbl ∧ tb_ok w = true) := by decide +kernel
theorem at_AE_201 {l : Launch} {G : GT} (g : GOK l G) {σ : CS} {s : State} {args : Array Value} {H : Heap} {locs : List Loc} (hc : Cw G σ s) (hS : va_S (gA G) s.heap H locs) : ∀ U : State, U.heap = H → s.WarmedH U.vm → ∀ w ∈ Bundle.ownAtoms0 R_Pc 201 "java/lang/ArithmeticException" ["java/lang/RuntimeException", "java/lang/Exception"], w.before args U = true := by
  intro U hU hW w hw
  have O := hc.1.to g.2.2.2.1 hS hU hW
  obtain ⟨h1, h2, h3, h4⟩ := g.2.2.2.2.2.2.2.2.2 U args O
  rcases at_AE_201_in w hw with (rfl | rfl | rfl | rfl) | ⟨q1, q2⟩
  · exact h1
  · exact h2
  · exact h3
  · exact h4
  · exact (g.2.1.warm O.1).w q1 q2
set_option maxHeartbeats 4000000 in
set_option maxRecDepth 100000 in
theorem K_Pc_quotient {l : Launch} {G : GT} (g : GOK l G) (σ : CS) (x y : UInt64) (hxf : fp_fin x) (hyf : fp_fin y) : cx_M l y_Pc_quotient (.code y_Pc_quotient b_Pc_quotient 5 (some .double)) 6 89 (gA G) [.ref (gad G 0), .double x, .double y] (Cw G σ) (Rd G (fun r u => (¬ Op.cmpValue (FP.dcmp y FP.dconst0) .l = 0 ∧ r = FP.ddiv x y) ∧ u = σ)) (Tw G (fun E u => E = "java/lang/ArithmeticException" ∧ Op.cmpValue (FP.dcmp y FP.dconst0) .l = 0 ∧ u = sI σ 1 1)) := by
  refine cx_of (by decide +kernel) ?_
  intro p e s m below meth c s₁ B hml ht hc
  have hx := B.exec
  have hb := B.bytes
  have hr := B.returns
  have hown : s.vm.findClass R_Pc = some m.cls := findClass_of_methodNamed B.named
  have hlocks := B.notSynchronized
  have hT := g.tb hc
  have hK := g.k hc
  have hD := g.d (σ := σ)
  have hS : va_S (gA G) s.heap s.heap [] := va_S.rf
  have hP := hc.2.2
  have hl := lv_entry ([.ref (gad G 0), .double x, .double y]) (n := 5) (Nat.le_of_ble_eq_true rfl)
  rw [lg_entry_eq]
  generalize (lg_sl ([.ref (gad G 0), .double x, .double y]) ++ List.replicate (5 - (lg_sl ([.ref (gad G 0), .double x, .double y])).length) Slot.unset).toArray = ls at hl ⊢
  have hl : lv_has ls 5 [(0, .ref (gad G 0)), (1, .double x), (3, .double y)] := hl
  refine lv_dload_n hx hb d_Pc_quotient_0 rfl (lv_at hl 2 rfl) ?_
  refine lv_dconst0 hx hb d_Pc_quotient_1 ?_
  refine lv_dcmp hx hb d_Pc_quotient_2 ?_
  refine lv_if_ne (tgt := 19) hx hb d_Pc_quotient_3 (by decide) (fun c3 => ?_) (fun c3 => ?_)
  · refine lv_dload_n hx hb d_Pc_quotient_19 rfl (lv_at hl 1 rfl) ?_
    refine lv_dload_n hx hb d_Pc_quotient_20 rfl (lv_at hl 2 rfl) ?_
    refine lv_ddiv hx hb d_Pc_quotient_21 (fp_div hxf hyf (fun z => c3 (by rw [z]; rfl))) ?_
    exact end_d (u := σ) hx hb hr hlocks hS hP d_Pc_quotient_22 (⟨⟨c3, rfl⟩, rfl⟩)
  · refine lv_aload_n hx hb d_Pc_quotient_6 rfl (lv_at hl 0 rfl) ?_
    refine lv_iconst (v := 1) hx hb d_Pc_quotient_7 (by decide) ?_
    refine va_put (D := gD G) (ci := 6) (v := .int 1) (ty := .boolean) (C := R_Pc) (T := F_Pc) (N := 12) hx hb (wl_Pc hT) (fun _ h9 => h9) fy_Pc fy_Pc_ok fn_Pc hown hK hP hD hS 0 rfl rfl 10 (by decide) (k_189 hT) (fun _ h9 => h9) rfl (by decide +kernel) rfl rfl (Nat.le_of_ble_eq_true rfl) d_Pc_quotient_8 (fun H locs hP hD hS => ?_)
    have hP : va_P (gD G) classes (cw G (sI σ 1 1)) H := hP
    have hD : va_D (gA G) (cw G (sI σ 1 1)) := g.d
    exact cx_throw (own := R_Pc) (cls := "java/lang/ArithmeticException") (names := ["java/lang/RuntimeException", "java/lang/Exception"]) (ik := 199) (ic := 201) hx hb g.1 hown (by decide +kernel) (by decide +kernel) (fun U hU hW => ⟨k_499 ((g.tb hc).warm hW), k_17 ((g.tb hc).warm hW), at_AE_201 g hc hS U hU hW⟩) hS hc.2.1 (by rw [hml]; exact hl.1) d_Pc_quotient_11 d_Pc_quotient_14 d_Pc_quotient_15 d_Pc_quotient_18 ht hlocks (by decide) (Nat.le_of_ble_eq_true rfl) (by decide) (by decide) (fun t9 _ _ hk => Tw.i (u := (sI σ 1 1)) (⟨rfl, c3, rfl⟩) (hP.keep hk))

set_option maxHeartbeats 4000000 in
set_option maxRecDepth 100000 in
theorem K_Pc_outcomeOf {l : Launch} {G : GT} (g : GOK l G) (σ : CS) (o : Int32) (x y : UInt64) (hxf : fp_fin x) (hyf : fp_fin y) : cx_M l y_Pc_outcomeOf (.code y_Pc_outcomeOf b_Pc_outcomeOf 6 (some .double)) 7 113 (gA G) [.ref (gad G 0), .int o, .double x, .double y] (Cw G σ) (Rd G (fun r u => (dzF o y = false ∧ r = ocF o x y) ∧ u = σ)) (Tw G (fun E u => E = "java/lang/ArithmeticException" ∧ dzF o y = true ∧ u = sI σ 1 1)) := by
  refine cx_of (by decide +kernel) ?_
  intro p e s m below meth c s₁ B hml ht hc
  have hx := B.exec
  have hb := B.bytes
  have hr := B.returns
  have hown : s.vm.findClass R_Pc = some m.cls := findClass_of_methodNamed B.named
  have hlocks := B.notSynchronized
  have hT := g.tb hc
  have hK := g.k hc
  have hD := g.d (σ := σ)
  have hS : va_S (gA G) s.heap s.heap [] := va_S.rf
  have hP := hc.2.2
  have hl := lv_entry ([.ref (gad G 0), .int o, .double x, .double y]) (n := 6) (Nat.le_of_ble_eq_true rfl)
  rw [lg_entry_eq]
  generalize (lg_sl ([.ref (gad G 0), .int o, .double x, .double y]) ++ List.replicate (6 - (lg_sl ([.ref (gad G 0), .int o, .double x, .double y])).length) Slot.unset).toArray = ls at hl ⊢
  have hl : lv_has ls 6 [(0, .ref (gad G 0)), (1, .int o), (2, .double x), (4, .double y)] := hl
  refine lv_iload_n hx hb d_Pc_outcomeOf_0 rfl (lv_at hl 1 rfl) ?_
  by_cases c1_10 : o = 10
  · refine lv_tableIn (tgt := 28) hx hb d_Pc_outcomeOf_1 (by rw [c1_10]; decide) (by rw [c1_10]; decide) (by rw [c1_10]; rfl) (by decide) ?_
    refine lv_dload_n hx hb d_Pc_outcomeOf_28 rfl (lv_at hl 2 rfl) ?_
    refine lv_dload hx hb d_Pc_outcomeOf_29 (lv_at hl 3 rfl) ?_
    refine lv_dadd hx hb d_Pc_outcomeOf_31 (fp_add hxf hyf) ?_
    exact end_d (u := σ) hx hb hr hlocks hS hP d_Pc_outcomeOf_32 (⟨⟨by simp [dzF, c1_10], by simp [ocF, c1_10]⟩, rfl⟩)
  by_cases c1_11 : o = 11
  · refine lv_tableIn (tgt := 33) hx hb d_Pc_outcomeOf_1 (by rw [c1_11]; decide) (by rw [c1_11]; decide) (by rw [c1_11]; rfl) (by decide) ?_
    refine lv_dload_n hx hb d_Pc_outcomeOf_33 rfl (lv_at hl 2 rfl) ?_
    refine lv_dload hx hb d_Pc_outcomeOf_34 (lv_at hl 3 rfl) ?_
    refine lv_dsub hx hb d_Pc_outcomeOf_36 (fp_sub hxf hyf) ?_
    exact end_d (u := σ) hx hb hr hlocks hS hP d_Pc_outcomeOf_37 (⟨⟨by simp [dzF, c1_10, c1_11], by simp [ocF, c1_10, c1_11]⟩, rfl⟩)
  by_cases c1_12 : o = 12
  · refine lv_tableIn (tgt := 38) hx hb d_Pc_outcomeOf_1 (by rw [c1_12]; decide) (by rw [c1_12]; decide) (by rw [c1_12]; rfl) (by decide) ?_
    refine lv_dload_n hx hb d_Pc_outcomeOf_38 rfl (lv_at hl 2 rfl) ?_
    refine lv_dload hx hb d_Pc_outcomeOf_39 (lv_at hl 3 rfl) ?_
    refine lv_dmul hx hb d_Pc_outcomeOf_41 (fp_mul hxf hyf) ?_
    exact end_d (u := σ) hx hb hr hlocks hS hP d_Pc_outcomeOf_42 (⟨⟨by simp [dzF, c1_10, c1_11, c1_12], by simp [ocF, c1_10, c1_11, c1_12]⟩, rfl⟩)
  refine lv_tableOut (tgt := 43) hx hb d_Pc_outcomeOf_1 (tsw_out (n := 3) (l := [10, 11, 12]) (by decide) (by decide) (by simp [c1_10, c1_11, c1_12])) (by decide) ?_
  refine lv_aload_n hx hb d_Pc_outcomeOf_43 rfl (lv_at hl 0 rfl) ?_
  refine lv_dload_n hx hb d_Pc_outcomeOf_44 rfl (lv_at hl 2 rfl) ?_
  refine lv_dload hx hb d_Pc_outcomeOf_45 (lv_at hl 3 rfl) ?_
  refine cx_V (n := 2) (C := R_Pc) (As := [.double x, .double y]) (rest := []) ⟨hx, hb, hml, hown, fun _ h9 => nomatch h9⟩ (K_Pc_quotient g σ x y hxf hyf) (k_495 hT) (k_497 hT) (ks_15 hT) (k_498 hT) (k_1 hT) rfl (by decide +kernel) (va_recv hK hP (ci := 6) (q0 := 0) rfl rfl) (hc.at g hS hP) ⟨by decide, by decide⟩ ⟨by decide, by decide⟩ hl.1 (Nat.le_of_ble_eq_true rfl) d_Pc_outcomeOf_47 (fun _ h9 => h9) hS (fun E ce q t H1 locs ht9 hTx hz hk hS hce hcv hcl => ?_) (fun v t H locs ht9 hRt hz hk hS => ?_)
  · obtain ⟨u, hq, hP⟩ := hTx; rw [ht9] at hP; exact cx_out ht hlocks hce hcv hcl hS (fun t9 h9 _ => Tw.i (u := u) (⟨hq.1, by simp [dzF, hq.2.1, c1_10, c1_11, c1_12], hq.2.2⟩) (by rw [h9]; exact hP)) (by decide) (by decide)
  · obtain ⟨r, u, rfl, ⟨⟨hdz, er⟩, eu⟩, hP⟩ := hRt
    subst er
    rw [eu, ht9] at hP
    have hD : va_D (gA G) (cw G σ) := g.d
    refine W.eq (g2 := F0 m 50 ls [.double (FP.ddiv x y)]) rfl ?_
    exact end_d (u := σ) hx hb hr hlocks hS hP d_Pc_outcomeOf_50 (⟨⟨by simp [dzF, c1_10, c1_11, c1_12, hdz], by simp [ocF, c1_10, c1_11, c1_12]⟩, rfl⟩)

set_option maxHeartbeats 4000000 in
set_option maxRecDepth 100000 in
theorem K_Pc_computedFraction {l : Launch} {G : GT} (g : GOK l G) (σ : CS) (o : Int32) (x y : UInt64) (hxf : fp_fin x) (hyf : fp_fin y) : cx_M l y_Pc_computedFraction (.code y_Pc_computedFraction b_Pc_computedFraction 8 (some .double)) 8 138 (gA G) [.ref (gad G 0), .int o, .double x, .double y] (Cw G σ) (Rd G (fun r u => (cfT o x y = false ∧ r = ocF o x y) ∧ u = σ)) (Tw G (fun E u => E = "java/lang/ArithmeticException" ∧ cfT o x y = true ∧ u = sI σ 1 1)) := by
  refine cx_of (by decide +kernel) ?_
  intro p e s m below meth c s₁ B hml ht hc
  have hx := B.exec
  have hb := B.bytes
  have hr := B.returns
  have hown : s.vm.findClass R_Pc = some m.cls := findClass_of_methodNamed B.named
  have hlocks := B.notSynchronized
  have hT := g.tb hc
  have hK := g.k hc
  have hD := g.d (σ := σ)
  have hS : va_S (gA G) s.heap s.heap [] := va_S.rf
  have hP := hc.2.2
  have hl := lv_entry ([.ref (gad G 0), .int o, .double x, .double y]) (n := 8) (Nat.le_of_ble_eq_true rfl)
  rw [lg_entry_eq]
  generalize (lg_sl ([.ref (gad G 0), .int o, .double x, .double y]) ++ List.replicate (8 - (lg_sl ([.ref (gad G 0), .int o, .double x, .double y])).length) Slot.unset).toArray = ls at hl ⊢
  have hl : lv_has ls 8 [(0, .ref (gad G 0)), (1, .int o), (2, .double x), (4, .double y)] := hl
  refine lv_aload_n hx hb d_Pc_computedFraction_0 rfl (lv_at hl 0 rfl) ?_
  refine lv_iload_n hx hb d_Pc_computedFraction_1 rfl (lv_at hl 1 rfl) ?_
  refine lv_dload_n hx hb d_Pc_computedFraction_2 rfl (lv_at hl 2 rfl) ?_
  refine lv_dload hx hb d_Pc_computedFraction_3 (lv_at hl 3 rfl) ?_
  refine cx_V (n := 3) (C := R_Pc) (As := [.int o, .double x, .double y]) (rest := []) ⟨hx, hb, hml, hown, fun _ h9 => nomatch h9⟩ (K_Pc_outcomeOf g σ o x y hxf hyf) (k_491 hT) (k_493 hT) (ks_14 hT) (k_494 hT) (k_1 hT) rfl (by decide +kernel) (va_recv hK hP (ci := 6) (q0 := 0) rfl rfl) (hc.at g hS hP) ⟨by decide, by decide⟩ ⟨by decide, by decide⟩ hl.1 (Nat.le_of_ble_eq_true rfl) d_Pc_computedFraction_5 (fun _ h9 => h9) hS (fun E ce q t H1 locs ht9 hTx hz hk hS hce hcv hcl => ?_) (fun v t H locs ht9 hRt hz hk hS => ?_)
  · obtain ⟨u, hq, hP⟩ := hTx; rw [ht9] at hP; exact cx_out ht hlocks hce hcv hcl hS (fun t9 h9 _ => Tw.i (u := u) (⟨hq.1, by simp [cfT, hq.2.1], hq.2.2⟩) (by rw [h9]; exact hP)) (by decide) (by decide)
  · obtain ⟨r, u, rfl, ⟨⟨hdz, er⟩, eu⟩, hP⟩ := hRt
    subst er
    rw [eu, ht9] at hP
    have hD : va_D (gA G) (cw G σ) := g.d
    refine W.eq (g2 := F0 m 8 ls [.double (ocF o x y)]) rfl ?_
    refine lv_dstore (lv' := [(6, .double (ocF o x y)), (0, .ref (gad G 0)), (1, .int o), (2, .double x), (4, .double y)]) hx hb d_Pc_computedFraction_8 hl (by decide) rfl (fun ls hl => ?_)
    refine lv_dload hx hb d_Pc_computedFraction_10 (lv_at hl 0 rfl) ?_
    refine lv_ldc2d (v := 4741671816366391296) hx hb hown (k_514 hT) d_Pc_computedFraction_12 ?_
    refine lv_dcmp hx hb d_Pc_computedFraction_15 ?_
    refine lv_if_gt (tgt := 28) hx hb d_Pc_computedFraction_16 (by decide) (fun c16 => ?_) (fun c16 => ?_)
    · refine lv_aload_n hx hb d_Pc_computedFraction_28 rfl (lv_at hl 1 rfl) ?_
      refine lv_iconst (v := 1) hx hb d_Pc_computedFraction_29 (by decide) ?_
      refine va_put (D := gD G) (ci := 6) (v := .int 1) (ty := .boolean) (C := R_Pc) (T := F_Pc) (N := 12) hx hb (wl_Pc hT) (fun _ h9 => h9) fy_Pc fy_Pc_ok fn_Pc hown hK hP hD hS 0 rfl rfl 10 (by decide) (k_189 hT) (fun _ h9 => h9) rfl (by decide +kernel) rfl rfl (Nat.le_of_ble_eq_true rfl) d_Pc_computedFraction_30 (fun H locs hP hD hS => ?_)
      have hP : va_P (gD G) classes (cw G (sI σ 1 1)) H := hP
      have hD : va_D (gA G) (cw G (sI σ 1 1)) := g.d
      exact cx_throw (own := R_Pc) (cls := "java/lang/ArithmeticException") (names := ["java/lang/RuntimeException", "java/lang/Exception"]) (ik := 199) (ic := 201) hx hb g.1 hown (by decide +kernel) (by decide +kernel) (fun U hU hW => ⟨k_499 ((g.tb hc).warm hW), k_17 ((g.tb hc).warm hW), at_AE_201 g hc hS U hU hW⟩) hS hc.2.1 (by rw [hml]; exact hl.1) d_Pc_computedFraction_33 d_Pc_computedFraction_36 d_Pc_computedFraction_37 d_Pc_computedFraction_40 ht hlocks (by decide) (Nat.le_of_ble_eq_true rfl) (by decide) (by decide) (fun t9 _ _ hk => Tw.i (u := (sI σ 1 1)) (⟨rfl, by simp [cfT, ovF, lim9, lim9m, hdz, c16], rfl⟩) (hP.keep hk))
    · refine lv_dload hx hb d_Pc_computedFraction_19 (lv_at hl 0 rfl) ?_
      refine lv_ldc2d (v := 13965043853221167104) hx hb hown (k_515 hT) d_Pc_computedFraction_21 ?_
      refine lv_dcmp hx hb d_Pc_computedFraction_24 ?_
      refine lv_if_ge (tgt := 41) hx hb d_Pc_computedFraction_25 (by decide) (fun c25 => ?_) (fun c25 => ?_)
      · refine lv_dload hx hb d_Pc_computedFraction_41 (lv_at hl 0 rfl) ?_
        exact end_d (u := σ) hx hb hr hlocks hS hP d_Pc_computedFraction_43 (⟨⟨by simp [cfT, ovF, lim9, lim9m, hdz, c16, c25], rfl⟩, rfl⟩)
      · refine lv_aload_n hx hb d_Pc_computedFraction_28 rfl (lv_at hl 1 rfl) ?_
        refine lv_iconst (v := 1) hx hb d_Pc_computedFraction_29 (by decide) ?_
        refine va_put (D := gD G) (ci := 6) (v := .int 1) (ty := .boolean) (C := R_Pc) (T := F_Pc) (N := 12) hx hb (wl_Pc hT) (fun _ h9 => h9) fy_Pc fy_Pc_ok fn_Pc hown hK hP hD hS 0 rfl rfl 10 (by decide) (k_189 hT) (fun _ h9 => h9) rfl (by decide +kernel) rfl rfl (Nat.le_of_ble_eq_true rfl) d_Pc_computedFraction_30 (fun H locs hP hD hS => ?_)
        have hP : va_P (gD G) classes (cw G (sI σ 1 1)) H := hP
        have hD : va_D (gA G) (cw G (sI σ 1 1)) := g.d
        exact cx_throw (own := R_Pc) (cls := "java/lang/ArithmeticException") (names := ["java/lang/RuntimeException", "java/lang/Exception"]) (ik := 199) (ic := 201) hx hb g.1 hown (by decide +kernel) (by decide +kernel) (fun U hU hW => ⟨k_499 ((g.tb hc).warm hW), k_17 ((g.tb hc).warm hW), at_AE_201 g hc hS U hU hW⟩) hS hc.2.1 (by rw [hml]; exact hl.1) d_Pc_computedFraction_33 d_Pc_computedFraction_36 d_Pc_computedFraction_37 d_Pc_computedFraction_40 ht hlocks (by decide) (Nat.le_of_ble_eq_true rfl) (by decide) (by decide) (fun t9 _ _ hk => Tw.i (u := (sI σ 1 1)) (⟨rfl, by simp [cfT, ovF, lim9, lim9m, hdz, c16, c25], rfl⟩) (hP.keep hk))

set_option maxHeartbeats 4000000 in
set_option maxRecDepth 100000 in
theorem K_Pc_compute {l : Launch} {G : GT} (g : GOK l G) (σ : CS) {i : Nat} (hi : i < 24) (h : okQ (cQ σ i)) (hf : ∀ j, j < 4 → fp_fin (cF σ 1 j)) : cx_M l y_Pc_compute (.code y_Pc_compute b_Pc_compute 6 none) 9 165 (gA G) [.ref (gad G 0), .ref (gia G i)] (Cw G σ) (Rv G (fun u => cpT σ (cQ σ i) = false ∧ u = cpF σ (cQ σ i))) (Tw G (fun E u => E = "java/lang/ArithmeticException" ∧ cpT σ (cQ σ i) = true ∧ u = sI σ 1 1)) := by
  refine cx_of (by decide +kernel) ?_
  intro p e s m below meth c s₁ B hml ht hc
  have hx := B.exec
  have hb := B.bytes
  have hr := B.returns
  have hown : s.vm.findClass R_Pc = some m.cls := findClass_of_methodNamed B.named
  have hlocks := B.notSynchronized
  have hT := g.tb hc
  have hK := g.k hc
  have hD := g.d (σ := σ)
  have hS : va_S (gA G) s.heap s.heap [] := va_S.rf
  have hP := hc.2.2
  have hl := lv_entry ([.ref (gad G 0), .ref (gia G i)]) (n := 6) (Nat.le_of_ble_eq_true rfl)
  rw [lg_entry_eq]
  generalize (lg_sl ([.ref (gad G 0), .ref (gia G i)]) ++ List.replicate (6 - (lg_sl ([.ref (gad G 0), .ref (gia G i)])).length) Slot.unset).toArray = ls at hl ⊢
  have hl : lv_has ls 6 [(0, .ref (gad G 0)), (1, .ref (gia G i))] := hl
  refine lv_aload_n hx hb d_Pc_compute_0 rfl (lv_at hl 1 rfl) ?_
  refine va_get (D := gD G) (ci := 3) (v := .int (cQ σ i 0)) (C := R_In) (T := F_In) (N := 8) hx hb (wl_In hT) (fun _ h9 => h9) hown hK hP (19 + i) (cw_in hi) rfl 0 (by decide) (k_147 hT) (fun _ h9 => h9) rfl d_Pc_compute_1 ?_
  refine lv_iconst (v := 5) hx hb d_Pc_compute_4 (by decide) ?_
  refine lv_icmp_gt (tgt := 22) hx hb d_Pc_compute_5 (by decide) (fun c5 => ?_) (fun c5 => ?_)
  · refine lv_aload_n hx hb d_Pc_compute_22 rfl (lv_at hl 0 rfl) ?_
    refine va_get (D := gD G) (ci := 6) (v := .ref (gad G 4)) (C := R_Pc) (T := F_Pc) (N := 12) hx hb (wl_Pc hT) (fun _ h9 => h9) hown hK hP 0 rfl rfl 3 (by decide) (k_182 hT) (fun _ h9 => h9) rfl d_Pc_compute_23 ?_
    refine lv_aload_n hx hb d_Pc_compute_26 rfl (lv_at hl 1 rfl) ?_
    refine va_get (D := gD G) (ci := 3) (v := .int (cQ σ i 2)) (C := R_In) (T := F_In) (N := 8) hx hb (wl_In hT) (fun _ h9 => h9) hown hK hP (19 + i) (cw_in hi) rfl 2 (by decide) (k_151 hT) (fun _ h9 => h9) rfl d_Pc_compute_27 ?_
    refine lv_iconst (v := 4) hx hb d_Pc_compute_30 (by decide) ?_
    refine lv_irem hx hb d_Pc_compute_31 (by decide) ?_
    refine va_dald (f := (cF σ 1)) hx hb hK hP 4 1 rfl rfl (m4_in h.2.2.1) d_Pc_compute_32 ?_
    refine lv_dstore_n (lv' := [(2, .double ((cF σ 1) ((cQ σ i 2) - (cQ σ i 2) / 4 * 4).toNatClampNeg)), (0, .ref (gad G 0)), (1, .ref (gia G i))]) hx hb d_Pc_compute_33 rfl hl (by decide) rfl (fun ls hl => ?_)
    refine lv_aload_n hx hb d_Pc_compute_34 rfl (lv_at hl 1 rfl) ?_
    refine va_get (D := gD G) (ci := 6) (v := .ref (gad G 4)) (C := R_Pc) (T := F_Pc) (N := 12) hx hb (wl_Pc hT) (fun _ h9 => h9) hown hK hP 0 rfl rfl 3 (by decide) (k_182 hT) (fun _ h9 => h9) rfl d_Pc_compute_35 ?_
    refine lv_aload_n hx hb d_Pc_compute_38 rfl (lv_at hl 2 rfl) ?_
    refine va_get (D := gD G) (ci := 3) (v := .int (cQ σ i 3)) (C := R_In) (T := F_In) (N := 8) hx hb (wl_In hT) (fun _ h9 => h9) hown hK hP (19 + i) (cw_in hi) rfl 3 (by decide) (k_153 hT) (fun _ h9 => h9) rfl d_Pc_compute_39 ?_
    refine lv_iconst (v := 4) hx hb d_Pc_compute_42 (by decide) ?_
    refine lv_irem hx hb d_Pc_compute_43 (by decide) ?_
    refine va_dald (f := (cF σ 1)) hx hb hK hP 4 1 rfl rfl (m4_in h.2.2.2.1) d_Pc_compute_44 ?_
    refine lv_dstore (lv' := [(4, .double ((cF σ 1) ((cQ σ i 3) - (cQ σ i 3) / 4 * 4).toNatClampNeg)), (2, .double ((cF σ 1) ((cQ σ i 2) - (cQ σ i 2) / 4 * 4).toNatClampNeg)), (0, .ref (gad G 0)), (1, .ref (gia G i))]) hx hb d_Pc_compute_45 hl (by decide) rfl (fun ls hl => ?_)
    refine lv_aload_n hx hb d_Pc_compute_47 rfl (lv_at hl 3 rfl) ?_
    refine va_get (D := gD G) (ci := 3) (v := .int (cQ σ i 0)) (C := R_In) (T := F_In) (N := 8) hx hb (wl_In hT) (fun _ h9 => h9) hown hK hP (19 + i) (cw_in hi) rfl 0 (by decide) (k_147 hT) (fun _ h9 => h9) rfl d_Pc_compute_48 ?_
    by_cases c51_14 : (cQ σ i 0) = 14
    · refine lv_tableIn (tgt := 76) hx hb d_Pc_compute_51 (by rw [c51_14]; decide) (by rw [c51_14]; decide) (by rw [c51_14]; rfl) (by decide) ?_
      refine lv_aload_n hx hb d_Pc_compute_76 rfl (lv_at hl 2 rfl) ?_
      refine lv_aload_n hx hb d_Pc_compute_77 rfl (lv_at hl 3 rfl) ?_
      refine va_get (D := gD G) (ci := 3) (v := .int (cQ σ i 1)) (C := R_In) (T := F_In) (N := 8) hx hb (wl_In hT) (fun _ h9 => h9) hown hK hP (19 + i) (cw_in hi) rfl 1 (by decide) (k_149 hT) (fun _ h9 => h9) rfl d_Pc_compute_78 ?_
      refine lv_dload_n hx hb d_Pc_compute_81 rfl (lv_at hl 1 rfl) ?_
      refine lv_dload hx hb d_Pc_compute_82 (lv_at hl 0 rfl) ?_
      refine lv_dcmp hx hb d_Pc_compute_84 ?_
      refine lv_if_ge (tgt := 92) hx hb d_Pc_compute_85 (by decide) (fun c85 => ?_) (fun c85 => ?_)
      · refine lv_iconst (v := 0) hx hb d_Pc_compute_92 (by decide) ?_
        refine cx_V (n := 2) (C := R_Pc) (As := [.int (cQ σ i 1), .int 0]) (rest := []) ⟨hx, hb, hml, hown, fun _ h9 => nomatch h9⟩ (K_Pc_putWhole g σ (cQ σ i 1) 0 h.2.1) (k_458 hT) (k_460 hT) (ks_9 hT) (k_461 hT) (k_1 hT) rfl (by decide +kernel) (va_recv hK hP (ci := 6) (q0 := 0) rfl rfl) (hc.at g hS hP) ⟨by decide, by decide⟩ ⟨by decide, by decide⟩ hl.1 (Nat.le_of_ble_eq_true rfl) d_Pc_compute_93 (fun _ h9 => h9) hS (fun _ _ _ _ _ _ _ h9 => h9.elim) (fun v t H locs ht9 hRt hz hk hS => ?_)
        obtain ⟨u, rfl, eu, hP⟩ := hRt
        rw [eu, ht9] at hP
        have hD : va_D (gA G) (cw G (pwF σ (cQ σ i 1) 0)) := g.d
        refine W.eq (g2 := F0 m 96 ls []) rfl ?_
        refine lv_goto (tgt := 158) hx hb d_Pc_compute_96 (by decide) ?_
        exact end_v (u := (pwF σ (cQ σ i 1) 0)) hx hb hr hlocks hS hP d_Pc_compute_158 (⟨by simp [cpT, ix, c5, c51_14, c85], by simp [cpF, ix, c5, c51_14, c85]⟩)
      · refine lv_iconst (v := 1) hx hb d_Pc_compute_88 (by decide) ?_
        refine lv_goto (tgt := 93) hx hb d_Pc_compute_89 (by decide) ?_
        refine cx_V (n := 2) (C := R_Pc) (As := [.int (cQ σ i 1), .int 1]) (rest := []) ⟨hx, hb, hml, hown, fun _ h9 => nomatch h9⟩ (K_Pc_putWhole g σ (cQ σ i 1) 1 h.2.1) (k_458 hT) (k_460 hT) (ks_9 hT) (k_461 hT) (k_1 hT) rfl (by decide +kernel) (va_recv hK hP (ci := 6) (q0 := 0) rfl rfl) (hc.at g hS hP) ⟨by decide, by decide⟩ ⟨by decide, by decide⟩ hl.1 (Nat.le_of_ble_eq_true rfl) d_Pc_compute_93 (fun _ h9 => h9) hS (fun _ _ _ _ _ _ _ h9 => h9.elim) (fun v t H locs ht9 hRt hz hk hS => ?_)
        obtain ⟨u, rfl, eu, hP⟩ := hRt
        rw [eu, ht9] at hP
        have hD : va_D (gA G) (cw G (pwF σ (cQ σ i 1) 1)) := g.d
        refine W.eq (g2 := F0 m 96 ls []) rfl ?_
        refine lv_goto (tgt := 158) hx hb d_Pc_compute_96 (by decide) ?_
        exact end_v (u := (pwF σ (cQ σ i 1) 1)) hx hb hr hlocks hS hP d_Pc_compute_158 (⟨by simp [cpT, ix, c5, c51_14, c85], by simp [cpF, ix, c5, c51_14, c85]⟩)
    by_cases c51_15 : (cQ σ i 0) = 15
    · refine lv_tableIn (tgt := 99) hx hb d_Pc_compute_51 (by rw [c51_15]; decide) (by rw [c51_15]; decide) (by rw [c51_15]; rfl) (by decide) ?_
      refine lv_aload_n hx hb d_Pc_compute_99 rfl (lv_at hl 2 rfl) ?_
      refine va_get (D := gD G) (ci := 6) (v := .ref (gad G 4)) (C := R_Pc) (T := F_Pc) (N := 12) hx hb (wl_Pc hT) (fun _ h9 => h9) hown hK hP 0 rfl rfl 3 (by decide) (k_182 hT) (fun _ h9 => h9) rfl d_Pc_compute_100 ?_
      refine lv_aload_n hx hb d_Pc_compute_103 rfl (lv_at hl 3 rfl) ?_
      refine va_get (D := gD G) (ci := 3) (v := .int (cQ σ i 1)) (C := R_In) (T := F_In) (N := 8) hx hb (wl_In hT) (fun _ h9 => h9) hown hK hP (19 + i) (cw_in hi) rfl 1 (by decide) (k_149 hT) (fun _ h9 => h9) rfl d_Pc_compute_104 ?_
      refine lv_iconst (v := 4) hx hb d_Pc_compute_107 (by decide) ?_
      refine lv_irem hx hb d_Pc_compute_108 (by decide) ?_
      refine lv_aload_n hx hb d_Pc_compute_109 rfl (lv_at hl 2 rfl) ?_
      refine va_get (D := gD G) (ci := 6) (v := .ref (gad G 3)) (C := R_Pc) (T := F_Pc) (N := 12) hx hb (wl_Pc hT) (fun _ h9 => h9) hown hK hP 0 rfl rfl 2 (by decide) (k_181 hT) (fun _ h9 => h9) rfl d_Pc_compute_110 ?_
      refine lv_aload_n hx hb d_Pc_compute_113 rfl (lv_at hl 3 rfl) ?_
      refine va_get (D := gD G) (ci := 3) (v := .int (cQ σ i 2)) (C := R_In) (T := F_In) (N := 8) hx hb (wl_In hT) (fun _ h9 => h9) hown hK hP (19 + i) (cw_in hi) rfl 2 (by decide) (k_151 hT) (fun _ h9 => h9) rfl d_Pc_compute_114 ?_
      refine va_iald (f := (cJ σ 0)) hx hb hK hP 3 0 rfl rfl (h.2.2.1) d_Pc_compute_117 ?_
      refine lv_i2d hx hb d_Pc_compute_118 ?_
      refine va_dast (f := (cF σ 1)) hx hb hK hP hD hS 4 1 rfl rfl (m4_in h.2.1) d_Pc_compute_119 (fun H locs hP hD hS => ?_)
      have hP : va_P (gD G) classes (cw G (sF σ 1 (vf_upd (cF σ 1) ((cQ σ i 1) - (cQ σ i 1) / 4 * 4).toNatClampNeg (FP.i2d ((cJ σ 0) (cQ σ i 2).toNatClampNeg))))) H := hP
      have hD : va_D (gA G) (cw G (sF σ 1 (vf_upd (cF σ 1) ((cQ σ i 1) - (cQ σ i 1) / 4 * 4).toNatClampNeg (FP.i2d ((cJ σ 0) (cQ σ i 2).toNatClampNeg))))) := g.d
      refine lv_goto (tgt := 158) hx hb d_Pc_compute_120 (by decide) ?_
      exact end_v (u := (sF σ 1 (vf_upd (cF σ 1) ((cQ σ i 1) - (cQ σ i 1) / 4 * 4).toNatClampNeg (FP.i2d ((cJ σ 0) (cQ σ i 2).toNatClampNeg))))) hx hb hr hlocks hS hP d_Pc_compute_158 (⟨by simp [cpT, ix, c5, c51_14, c51_15], by simp [cpF, ix, c5, c51_14, c51_15]⟩)
    by_cases c51_16 : (cQ σ i 0) = 16
    · refine lv_tableIn (tgt := 123) hx hb d_Pc_compute_51 (by rw [c51_16]; decide) (by rw [c51_16]; decide) (by rw [c51_16]; rfl) (by decide) ?_
      refine lv_aload_n hx hb d_Pc_compute_123 rfl (lv_at hl 2 rfl) ?_
      refine lv_aload_n hx hb d_Pc_compute_124 rfl (lv_at hl 3 rfl) ?_
      refine va_get (D := gD G) (ci := 3) (v := .int (cQ σ i 1)) (C := R_In) (T := F_In) (N := 8) hx hb (wl_In hT) (fun _ h9 => h9) hown hK hP (19 + i) (cw_in hi) rfl 1 (by decide) (k_149 hT) (fun _ h9 => h9) rfl d_Pc_compute_125 ?_
      refine lv_dload_n hx hb d_Pc_compute_128 rfl (lv_at hl 1 rfl) ?_
      refine lv_d2i hx hb d_Pc_compute_129 ?_
      refine cx_V (n := 2) (C := R_Pc) (As := [.int (cQ σ i 1), .int (FP.d2i ((cF σ 1) ((cQ σ i 2) - (cQ σ i 2) / 4 * 4).toNatClampNeg))]) (rest := []) ⟨hx, hb, hml, hown, fun _ h9 => nomatch h9⟩ (K_Pc_putWhole g σ (cQ σ i 1) (FP.d2i ((cF σ 1) ((cQ σ i 2) - (cQ σ i 2) / 4 * 4).toNatClampNeg)) h.2.1) (k_458 hT) (k_460 hT) (ks_9 hT) (k_461 hT) (k_1 hT) rfl (by decide +kernel) (va_recv hK hP (ci := 6) (q0 := 0) rfl rfl) (hc.at g hS hP) ⟨by decide, by decide⟩ ⟨by decide, by decide⟩ hl.1 (Nat.le_of_ble_eq_true rfl) d_Pc_compute_130 (fun _ h9 => h9) hS (fun _ _ _ _ _ _ _ h9 => h9.elim) (fun v t H locs ht9 hRt hz hk hS => ?_)
      obtain ⟨u, rfl, eu, hP⟩ := hRt
      rw [eu, ht9] at hP
      have hD : va_D (gA G) (cw G (pwF σ (cQ σ i 1) (FP.d2i ((cF σ 1) ((cQ σ i 2) - (cQ σ i 2) / 4 * 4).toNatClampNeg)))) := g.d
      refine W.eq (g2 := F0 m 133 ls []) rfl ?_
      refine lv_goto (tgt := 158) hx hb d_Pc_compute_133 (by decide) ?_
      exact end_v (u := (pwF σ (cQ σ i 1) (FP.d2i ((cF σ 1) ((cQ σ i 2) - (cQ σ i 2) / 4 * 4).toNatClampNeg)))) hx hb hr hlocks hS hP d_Pc_compute_158 (⟨by simp [cpT, ix, c5, c51_14, c51_15, c51_16], by simp [cpF, ix, c5, c51_14, c51_15, c51_16]⟩)
    refine lv_tableOut (tgt := 136) hx hb d_Pc_compute_51 (tsw_out (n := 3) (l := [14, 15, 16]) (by decide) (by decide) (by simp [c51_14, c51_15, c51_16])) (by decide) ?_
    refine lv_aload_n hx hb d_Pc_compute_136 rfl (lv_at hl 2 rfl) ?_
    refine va_get (D := gD G) (ci := 6) (v := .ref (gad G 4)) (C := R_Pc) (T := F_Pc) (N := 12) hx hb (wl_Pc hT) (fun _ h9 => h9) hown hK hP 0 rfl rfl 3 (by decide) (k_182 hT) (fun _ h9 => h9) rfl d_Pc_compute_137 ?_
    refine lv_aload_n hx hb d_Pc_compute_140 rfl (lv_at hl 3 rfl) ?_
    refine va_get (D := gD G) (ci := 3) (v := .int (cQ σ i 1)) (C := R_In) (T := F_In) (N := 8) hx hb (wl_In hT) (fun _ h9 => h9) hown hK hP (19 + i) (cw_in hi) rfl 1 (by decide) (k_149 hT) (fun _ h9 => h9) rfl d_Pc_compute_141 ?_
    refine lv_iconst (v := 4) hx hb d_Pc_compute_144 (by decide) ?_
    refine lv_irem hx hb d_Pc_compute_145 (by decide) ?_
    refine lv_aload_n hx hb d_Pc_compute_146 rfl (lv_at hl 2 rfl) ?_
    refine lv_aload_n hx hb d_Pc_compute_147 rfl (lv_at hl 3 rfl) ?_
    refine va_get (D := gD G) (ci := 3) (v := .int (cQ σ i 0)) (C := R_In) (T := F_In) (N := 8) hx hb (wl_In hT) (fun _ h9 => h9) hown hK hP (19 + i) (cw_in hi) rfl 0 (by decide) (k_147 hT) (fun _ h9 => h9) rfl d_Pc_compute_148 ?_
    refine lv_dload_n hx hb d_Pc_compute_151 rfl (lv_at hl 1 rfl) ?_
    refine lv_dload hx hb d_Pc_compute_152 (lv_at hl 0 rfl) ?_
    refine cx_V (n := 3) (C := R_Pc) (As := [.int (cQ σ i 0), .double ((cF σ 1) ((cQ σ i 2) - (cQ σ i 2) / 4 * 4).toNatClampNeg), .double ((cF σ 1) ((cQ σ i 3) - (cQ σ i 3) / 4 * 4).toNatClampNeg)]) (rest := [.int ((cQ σ i 1) - (cQ σ i 1) / 4 * 4), .ref (gad G 4)]) ⟨hx, hb, hml, hown, fun _ h9 => nomatch h9⟩ (K_Pc_computedFraction g σ (cQ σ i 0) ((cF σ 1) ((cQ σ i 2) - (cQ σ i 2) / 4 * 4).toNatClampNeg) ((cF σ 1) ((cQ σ i 3) - (cQ σ i 3) / 4 * 4).toNatClampNeg) (hf _ (vp_lt (m4_in h.2.2.1))) (hf _ (vp_lt (m4_in h.2.2.2.1)))) (k_487 hT) (k_489 hT) (ks_13 hT) (k_490 hT) (k_1 hT) rfl (by decide +kernel) (va_recv hK hP (ci := 6) (q0 := 0) rfl rfl) (hc.at g hS hP) ⟨by decide, by decide⟩ ⟨by decide, by decide⟩ hl.1 (Nat.le_of_ble_eq_true rfl) d_Pc_compute_154 (fun _ h9 => h9) hS (fun E ce q t H1 locs ht9 hTx hz hk hS hce hcv hcl => ?_) (fun v t H locs ht9 hRt hz hk hS => ?_)
    · obtain ⟨u, hq, hP⟩ := hTx; rw [ht9] at hP; exact cx_out ht hlocks hce hcv hcl hS (fun t9 h9 _ => Tw.i (u := u) (⟨hq.1, by simp [cpT, c5, c51_14, c51_15, c51_16]; exact hq.2.1, hq.2.2⟩) (by rw [h9]; exact hP)) (by decide) (by decide)
    · obtain ⟨r, u, rfl, ⟨⟨hcf, er⟩, eu⟩, hP⟩ := hRt
      subst er
      rw [eu, ht9] at hP
      have hD : va_D (gA G) (cw G σ) := g.d
      refine W.eq (g2 := F0 m 157 ls [.double (ocF (cQ σ i 0) ((cF σ 1) ((cQ σ i 2) - (cQ σ i 2) / 4 * 4).toNatClampNeg) ((cF σ 1) ((cQ σ i 3) - (cQ σ i 3) / 4 * 4).toNatClampNeg)), .int ((cQ σ i 1) - (cQ σ i 1) / 4 * 4), .ref (gad G 4)]) rfl ?_
      refine va_dast (f := (cF σ 1)) hx hb hK hP hD hS 4 1 rfl rfl (m4_in h.2.1) d_Pc_compute_157 (fun H locs hP hD hS => ?_)
      have hP : va_P (gD G) classes (cw G (sF σ 1 (vf_upd (cF σ 1) ((cQ σ i 1) - (cQ σ i 1) / 4 * 4).toNatClampNeg (ocF (cQ σ i 0) ((cF σ 1) ((cQ σ i 2) - (cQ σ i 2) / 4 * 4).toNatClampNeg) ((cF σ 1) ((cQ σ i 3) - (cQ σ i 3) / 4 * 4).toNatClampNeg))))) H := hP
      have hD : va_D (gA G) (cw G (sF σ 1 (vf_upd (cF σ 1) ((cQ σ i 1) - (cQ σ i 1) / 4 * 4).toNatClampNeg (ocF (cQ σ i 0) ((cF σ 1) ((cQ σ i 2) - (cQ σ i 2) / 4 * 4).toNatClampNeg) ((cF σ 1) ((cQ σ i 3) - (cQ σ i 3) / 4 * 4).toNatClampNeg))))) := g.d
      exact end_v (u := (sF σ 1 (vf_upd (cF σ 1) ((cQ σ i 1) - (cQ σ i 1) / 4 * 4).toNatClampNeg (ocF (cQ σ i 0) ((cF σ 1) ((cQ σ i 2) - (cQ σ i 2) / 4 * 4).toNatClampNeg) ((cF σ 1) ((cQ σ i 3) - (cQ σ i 3) / 4 * 4).toNatClampNeg))))) hx hb hr hlocks hS hP d_Pc_compute_158 (⟨by simp [cpT, ix, c5, c51_14, c51_15, c51_16, hcf], by simp [cpF, ix, c5, c51_14, c51_15, c51_16]⟩)
  · refine lv_aload_n hx hb d_Pc_compute_8 rfl (lv_at hl 0 rfl) ?_
    refine lv_aload_n hx hb d_Pc_compute_9 rfl (lv_at hl 1 rfl) ?_
    refine va_get (D := gD G) (ci := 3) (v := .int (cQ σ i 1)) (C := R_In) (T := F_In) (N := 8) hx hb (wl_In hT) (fun _ h9 => h9) hown hK hP (19 + i) (cw_in hi) rfl 1 (by decide) (k_149 hT) (fun _ h9 => h9) rfl d_Pc_compute_10 ?_
    refine lv_aload_n hx hb d_Pc_compute_13 rfl (lv_at hl 0 rfl) ?_
    refine lv_aload_n hx hb d_Pc_compute_14 rfl (lv_at hl 1 rfl) ?_
    refine cx_V (n := 1) (C := R_Pc) (As := [.ref (gia G i)]) (rest := [.int (cQ σ i 1), .ref (gad G 0)]) ⟨hx, hb, hml, hown, fun _ h9 => nomatch h9⟩ (K_Pc_computedWhole g σ hi h) (k_483 hT) (k_485 hT) (ks_12 hT) (k_486 hT) (k_1 hT) rfl (by decide +kernel) (va_recv hK hP (ci := 6) (q0 := 0) rfl rfl) (hc.at g hS hP) ⟨by decide, by decide⟩ ⟨by decide, by decide⟩ hl.1 (Nat.le_of_ble_eq_true rfl) d_Pc_compute_15 (fun _ h9 => h9) hS (fun _ _ _ _ _ _ _ h9 => h9.elim) (fun v t H locs ht9 hRt hz hk hS => ?_)
    obtain ⟨r, u, rfl, ⟨er, eu⟩, hP⟩ := hRt
    subst er
    rw [eu, ht9] at hP
    have hD : va_D (gA G) (cw G σ) := g.d
    refine W.eq (g2 := F0 m 18 ls [.int (cwF σ (cQ σ i)), .int (cQ σ i 1), .ref (gad G 0)]) rfl ?_
    refine cx_V (n := 2) (C := R_Pc) (As := [.int (cQ σ i 1), .int (cwF σ (cQ σ i))]) (rest := []) ⟨hx, hb, hml, hown, fun _ h9 => nomatch h9⟩ (K_Pc_putWhole g σ (cQ σ i 1) (cwF σ (cQ σ i)) h.2.1) (k_458 hT) (k_460 hT) (ks_9 hT) (k_461 hT) (k_1 hT) rfl (by decide +kernel) (va_recv hK hP (ci := 6) (q0 := 0) rfl rfl) (hc.at g hS hP) ⟨by decide, by decide⟩ ⟨by decide, by decide⟩ hl.1 (Nat.le_of_ble_eq_true rfl) d_Pc_compute_18 (fun _ h9 => h9) hS (fun _ _ _ _ _ _ _ h9 => h9.elim) (fun v t H locs ht9 hRt hz hk hS => ?_)
    obtain ⟨u, rfl, eu, hP⟩ := hRt
    rw [eu, ht9] at hP
    have hD : va_D (gA G) (cw G (pwF σ (cQ σ i 1) (cwF σ (cQ σ i)))) := g.d
    refine W.eq (g2 := F0 m 21 ls []) rfl ?_
    exact end_v (u := (pwF σ (cQ σ i 1) (cwF σ (cQ σ i)))) hx hb hr hlocks hS hP d_Pc_compute_21 (⟨by simp [cpT, ix, c5], by simp [cpF, ix, c5]⟩)

set_option maxRecDepth 100000 in
theorem at_IOB_179_in : ∀ w ∈ Bundle.ownAtoms0 R_Pc 179 "java/lang/IndexOutOfBoundsException" ["java/lang/RuntimeException", "java/lang/Exception"], (w = .isRef (.static Bundle.tN "UNASSIGNED_STACK" Bundle.steD) ∨ w = .isRef (.static Bundle.tN "SUPPRESSED_SENTINEL" Bundle.listD) ∨ w = .laysStatic Bundle.tN "UNASSIGNED_STACK" Bundle.steD ∨ w = .laysStatic Bundle.tN "SUPPRESSED_SENTINEL" Bundle.listD) ∨ (w ∈ lw_tbl ∧ tb_ok w = true) := by decide +kernel
theorem at_IOB_179 {l : Launch} {G : GT} (g : GOK l G) {σ : CS} {s : State} {args : Array Value} {H : Heap} {locs : List Loc} (hc : Cw G σ s) (hS : va_S (gA G) s.heap H locs) : ∀ U : State, U.heap = H → s.WarmedH U.vm → ∀ w ∈ Bundle.ownAtoms0 R_Pc 179 "java/lang/IndexOutOfBoundsException" ["java/lang/RuntimeException", "java/lang/Exception"], w.before args U = true := by
  intro U hU hW w hw
  have O := hc.1.to g.2.2.2.1 hS hU hW
  obtain ⟨h1, h2, h3, h4⟩ := g.2.2.2.2.2.2.2.2.2 U args O
  rcases at_IOB_179_in w hw with (rfl | rfl | rfl | rfl) | ⟨q1, q2⟩
  · exact h1
  · exact h2
  · exact h3
  · exact h4
  · exact (g.2.1.warm O.1).w q1 q2
set_option maxHeartbeats 4000000 in
set_option maxRecDepth 100000 in
theorem K_Pc_moveCell {l : Launch} {G : GT} (g : GOK l G) (σ : CS) {i : Nat} (hi : i < 24) (h : okQ (cQ σ i)) : cx_M l y_Pc_moveCell (.code y_Pc_moveCell b_Pc_moveCell 3 (some .boolean)) 6 89 (gA G) [.ref (gad G 0), .ref (gia G i)] (Cw G σ) (Ri G (fun r u => (badA (adF σ (cQ σ i)) = false ∧ r = b2i (dmF (mvF σ (cQ σ i) (adF σ (cQ σ i))) (adF σ (cQ σ i) / 4)).1) ∧ u = (dmF (mvF σ (cQ σ i) (adF σ (cQ σ i))) (adF σ (cQ σ i) / 4)).2)) (Tw G (fun E u => E = "java/lang/IndexOutOfBoundsException" ∧ badA (adF σ (cQ σ i)) = true ∧ u = sI σ 1 1)) := by
  refine cx_of (by decide +kernel) ?_
  intro p e s m below meth c s₁ B hml ht hc
  have hx := B.exec
  have hb := B.bytes
  have hr := B.returns
  have hown : s.vm.findClass R_Pc = some m.cls := findClass_of_methodNamed B.named
  have hlocks := B.notSynchronized
  have hT := g.tb hc
  have hK := g.k hc
  have hD := g.d (σ := σ)
  have hS : va_S (gA G) s.heap s.heap [] := va_S.rf
  have hP := hc.2.2
  have hl := lv_entry ([.ref (gad G 0), .ref (gia G i)]) (n := 3) (Nat.le_of_ble_eq_true rfl)
  rw [lg_entry_eq]
  generalize (lg_sl ([.ref (gad G 0), .ref (gia G i)]) ++ List.replicate (3 - (lg_sl ([.ref (gad G 0), .ref (gia G i)])).length) Slot.unset).toArray = ls at hl ⊢
  have hl : lv_has ls 3 [(0, .ref (gad G 0)), (1, .ref (gia G i))] := hl
  refine lv_aload_n hx hb d_Pc_moveCell_0 rfl (lv_at hl 0 rfl) ?_
  refine va_get (D := gD G) (ci := 6) (v := .ref (gad G 3)) (C := R_Pc) (T := F_Pc) (N := 12) hx hb (wl_Pc hT) (fun _ h9 => h9) hown hK hP 0 rfl rfl 2 (by decide) (k_181 hT) (fun _ h9 => h9) rfl d_Pc_moveCell_1 ?_
  refine lv_aload_n hx hb d_Pc_moveCell_4 rfl (lv_at hl 1 rfl) ?_
  refine va_get (D := gD G) (ci := 3) (v := .int (cQ σ i 2)) (C := R_In) (T := F_In) (N := 8) hx hb (wl_In hT) (fun _ h9 => h9) hown hK hP (19 + i) (cw_in hi) rfl 2 (by decide) (k_151 hT) (fun _ h9 => h9) rfl d_Pc_moveCell_5 ?_
  refine va_iald (f := (cJ σ 0)) hx hb hK hP 3 0 rfl rfl (h.2.2.1) d_Pc_moveCell_8 ?_
  refine lv_aload_n hx hb d_Pc_moveCell_9 rfl (lv_at hl 1 rfl) ?_
  refine va_get (D := gD G) (ci := 3) (v := .int (cQ σ i 4)) (C := R_In) (T := F_In) (N := 8) hx hb (wl_In hT) (fun _ h9 => h9) hown hK hP (19 + i) (cw_in hi) rfl 4 (by decide) (k_155 hT) (fun _ h9 => h9) rfl d_Pc_moveCell_10 ?_
  refine lv_iadd hx hb d_Pc_moveCell_13 ?_
  refine lv_istore_n (lv' := [(2, .int (((cJ σ 0) (cQ σ i 2).toNatClampNeg) + (cQ σ i 4))), (0, .ref (gad G 0)), (1, .ref (gia G i))]) hx hb d_Pc_moveCell_14 rfl hl (by decide) rfl (fun ls hl => ?_)
  refine lv_iload_n hx hb d_Pc_moveCell_15 rfl (lv_at hl 0 rfl) ?_
  refine lv_if_lt (tgt := 25) hx hb d_Pc_moveCell_16 (by decide) (fun c16 => ?_) (fun c16 => ?_)
  · refine lv_aload_n hx hb d_Pc_moveCell_25 rfl (lv_at hl 1 rfl) ?_
    refine lv_iconst (v := 1) hx hb d_Pc_moveCell_26 (by decide) ?_
    refine va_put (D := gD G) (ci := 6) (v := .int 1) (ty := .boolean) (C := R_Pc) (T := F_Pc) (N := 12) hx hb (wl_Pc hT) (fun _ h9 => h9) fy_Pc fy_Pc_ok fn_Pc hown hK hP hD hS 0 rfl rfl 10 (by decide) (k_189 hT) (fun _ h9 => h9) rfl (by decide +kernel) rfl rfl (Nat.le_of_ble_eq_true rfl) d_Pc_moveCell_27 (fun H locs hP hD hS => ?_)
    have hP : va_P (gD G) classes (cw G (sI σ 1 1)) H := hP
    have hD : va_D (gA G) (cw G (sI σ 1 1)) := g.d
    exact cx_throw (own := R_Pc) (cls := "java/lang/IndexOutOfBoundsException") (names := ["java/lang/RuntimeException", "java/lang/Exception"]) (ik := 177) (ic := 179) hx hb g.1 hown (by decide +kernel) (by decide +kernel) (fun U hU hW => ⟨k_443 ((g.tb hc).warm hW), k_15 ((g.tb hc).warm hW), at_IOB_179 g hc hS U hU hW⟩) hS hc.2.1 (by rw [hml]; exact hl.1) d_Pc_moveCell_30 d_Pc_moveCell_33 d_Pc_moveCell_34 d_Pc_moveCell_37 ht hlocks (by decide) (Nat.le_of_ble_eq_true rfl) (by decide) (by decide) (fun t9 _ _ hk => Tw.i (u := (sI σ 1 1)) (⟨rfl, by simp [badA, adF, ix, c16], rfl⟩) (hP.keep hk))
  · refine lv_iload_n hx hb d_Pc_moveCell_19 rfl (lv_at hl 0 rfl) ?_
    refine lv_bipush (v := 48) hx hb d_Pc_moveCell_20 (by decide) ?_
    refine lv_icmp_lt (tgt := 38) hx hb d_Pc_moveCell_22 (by decide) (fun c22 => ?_) (fun c22 => ?_)
    · refine lv_aload_n hx hb d_Pc_moveCell_38 rfl (lv_at hl 2 rfl) ?_
      refine va_get (D := gD G) (ci := 3) (v := .int (cQ σ i 0)) (C := R_In) (T := F_In) (N := 8) hx hb (wl_In hT) (fun _ h9 => h9) hown hK hP (19 + i) (cw_in hi) rfl 0 (by decide) (k_147 hT) (fun _ h9 => h9) rfl d_Pc_moveCell_39 ?_
      by_cases c42_6 : (cQ σ i 0) = 6
      · refine lv_tableIn (tgt := 68) hx hb d_Pc_moveCell_42 (by rw [c42_6]; decide) (by rw [c42_6]; decide) (by rw [c42_6]; rfl) (by decide) ?_
        refine lv_aload_n hx hb d_Pc_moveCell_68 rfl (lv_at hl 1 rfl) ?_
        refine lv_aload_n hx hb d_Pc_moveCell_69 rfl (lv_at hl 2 rfl) ?_
        refine va_get (D := gD G) (ci := 3) (v := .int (cQ σ i 1)) (C := R_In) (T := F_In) (N := 8) hx hb (wl_In hT) (fun _ h9 => h9) hown hK hP (19 + i) (cw_in hi) rfl 1 (by decide) (k_149 hT) (fun _ h9 => h9) rfl d_Pc_moveCell_70 ?_
        refine lv_aload_n hx hb d_Pc_moveCell_73 rfl (lv_at hl 1 rfl) ?_
        refine va_get (D := gD G) (ci := 6) (v := .ref (gad G 2)) (C := R_Pc) (T := F_Pc) (N := 12) hx hb (wl_Pc hT) (fun _ h9 => h9) hown hK hP 0 rfl rfl 1 (by decide) (k_180 hT) (fun _ h9 => h9) rfl d_Pc_moveCell_74 ?_
        refine lv_iload_n hx hb d_Pc_moveCell_77 rfl (lv_at hl 0 rfl) ?_
        refine va_dald (f := (cF σ 0)) hx hb hK hP 2 1 rfl rfl (vp48 c16 c22) d_Pc_moveCell_78 ?_
        refine lv_d2i hx hb d_Pc_moveCell_79 ?_
        refine cx_V (n := 2) (C := R_Pc) (As := [.int (cQ σ i 1), .int (FP.d2i ((cF σ 0) (((cJ σ 0) (cQ σ i 2).toNatClampNeg) + (cQ σ i 4)).toNatClampNeg))]) (rest := []) ⟨hx, hb, hml, hown, fun _ h9 => nomatch h9⟩ (K_Pc_putWhole g σ (cQ σ i 1) (FP.d2i ((cF σ 0) (((cJ σ 0) (cQ σ i 2).toNatClampNeg) + (cQ σ i 4)).toNatClampNeg)) h.2.1) (k_458 hT) (k_460 hT) (ks_9 hT) (k_461 hT) (k_1 hT) rfl (by decide +kernel) (va_recv hK hP (ci := 6) (q0 := 0) rfl rfl) (hc.at g hS hP) ⟨by decide, by decide⟩ ⟨by decide, by decide⟩ hl.1 (Nat.le_of_ble_eq_true rfl) d_Pc_moveCell_80 (fun _ h9 => h9) hS (fun _ _ _ _ _ _ _ h9 => h9.elim) (fun v t H locs ht9 hRt hz hk hS => ?_)
        obtain ⟨u, rfl, eu, hP⟩ := hRt
        rw [eu, ht9] at hP
        have hD : va_D (gA G) (cw G (pwF σ (cQ σ i 1) (FP.d2i ((cF σ 0) (((cJ σ 0) (cQ σ i 2).toNatClampNeg) + (cQ σ i 4)).toNatClampNeg)))) := g.d
        refine W.eq (g2 := F0 m 83 ls []) rfl ?_
        refine lv_goto (tgt := 142) hx hb d_Pc_moveCell_83 (by decide) ?_
        refine lv_aload_n hx hb d_Pc_moveCell_142 rfl (lv_at hl 1 rfl) ?_
        refine va_get (D := gD G) (ci := 6) (v := .ref (gad G 9)) (C := R_Pc) (T := F_Pc) (N := 12) hx hb (wl_Pc hT) (fun _ h9 => h9) hown hK hP 0 rfl rfl 6 (by decide) (k_185 hT) (fun _ h9 => h9) rfl d_Pc_moveCell_143 ?_
        refine lv_iload_n hx hb d_Pc_moveCell_146 rfl (lv_at hl 0 rfl) ?_
        refine lv_iconst (v := 4) hx hb d_Pc_moveCell_147 (by decide) ?_
        refine lv_idiv hx hb d_Pc_moveCell_148 (by decide) ?_
        refine cx_V (n := 1) (C := R_Dc) (As := [.int ((((cJ σ 0) (cQ σ i 2).toNatClampNeg) + (cQ σ i 4)) / 4)]) (rest := []) ⟨hx, hb, hml, hown, fun _ h9 => nomatch h9⟩ (K_Dc_misses g (pwF σ (cQ σ i 1) (FP.d2i ((cF σ 0) (((cJ σ 0) (cQ σ i 2).toNatClampNeg) + (cQ σ i 4)).toNatClampNeg))) ((((cJ σ 0) (cQ σ i 2).toNatClampNeg) + (cQ σ i 4)) / 4) (ln1 c16 c22) (ln2 c16 c22)) (k_462 hT) (k_463 hT) (k_464 hT) (k_465 hT) (k_5 hT) rfl (by decide +kernel) (va_recv hK hP (ci := 2) (q0 := 9) rfl rfl) (hc.at g hS hP) ⟨by decide, by decide⟩ ⟨by decide, by decide⟩ hl.1 (Nat.le_of_ble_eq_true rfl) d_Pc_moveCell_149 (fun _ h9 => h9) hS (fun _ _ _ _ _ _ _ h9 => h9.elim) (fun v t H locs ht9 hRt hz hk hS => ?_)
        obtain ⟨r, u, rfl, ⟨er, eu⟩, hP⟩ := hRt
        subst er
        rw [eu, ht9] at hP
        have hD : va_D (gA G) (cw G ((dmF (pwF σ (cQ σ i 1) (FP.d2i ((cF σ 0) (((cJ σ 0) (cQ σ i 2).toNatClampNeg) + (cQ σ i 4)).toNatClampNeg))) ((((cJ σ 0) (cQ σ i 2).toNatClampNeg) + (cQ σ i 4)) / 4)).2)) := g.d
        refine W.eq (g2 := F0 m 152 ls [.int (b2i (dmF (pwF σ (cQ σ i 1) (FP.d2i ((cF σ 0) (((cJ σ 0) (cQ σ i 2).toNatClampNeg) + (cQ σ i 4)).toNatClampNeg))) ((((cJ σ 0) (cQ σ i 2).toNatClampNeg) + (cQ σ i 4)) / 4)).1)]) rfl ?_
        exact end_z (u := ((dmF (pwF σ (cQ σ i 1) (FP.d2i ((cF σ 0) (((cJ σ 0) (cQ σ i 2).toNatClampNeg) + (cQ σ i 4)).toNatClampNeg))) ((((cJ σ 0) (cQ σ i 2).toNatClampNeg) + (cQ σ i 4)) / 4)).2)) hx hb hr hlocks hS hP d_Pc_moveCell_152 (nb_b _) (⟨⟨by simp [badA, adF, ix, c16, c22], by simp [mvF, adF, ix, c42_6]⟩, by simp [mvF, adF, ix, c42_6]⟩)
      by_cases c42_7 : (cQ σ i 0) = 7
      · refine lv_tableIn (tgt := 86) hx hb d_Pc_moveCell_42 (by rw [c42_7]; decide) (by rw [c42_7]; decide) (by rw [c42_7]; rfl) (by decide) ?_
        refine lv_aload_n hx hb d_Pc_moveCell_86 rfl (lv_at hl 1 rfl) ?_
        refine va_get (D := gD G) (ci := 6) (v := .ref (gad G 2)) (C := R_Pc) (T := F_Pc) (N := 12) hx hb (wl_Pc hT) (fun _ h9 => h9) hown hK hP 0 rfl rfl 1 (by decide) (k_180 hT) (fun _ h9 => h9) rfl d_Pc_moveCell_87 ?_
        refine lv_iload_n hx hb d_Pc_moveCell_90 rfl (lv_at hl 0 rfl) ?_
        refine lv_aload_n hx hb d_Pc_moveCell_91 rfl (lv_at hl 1 rfl) ?_
        refine va_get (D := gD G) (ci := 6) (v := .ref (gad G 3)) (C := R_Pc) (T := F_Pc) (N := 12) hx hb (wl_Pc hT) (fun _ h9 => h9) hown hK hP 0 rfl rfl 2 (by decide) (k_181 hT) (fun _ h9 => h9) rfl d_Pc_moveCell_92 ?_
        refine lv_aload_n hx hb d_Pc_moveCell_95 rfl (lv_at hl 2 rfl) ?_
        refine va_get (D := gD G) (ci := 3) (v := .int (cQ σ i 3)) (C := R_In) (T := F_In) (N := 8) hx hb (wl_In hT) (fun _ h9 => h9) hown hK hP (19 + i) (cw_in hi) rfl 3 (by decide) (k_153 hT) (fun _ h9 => h9) rfl d_Pc_moveCell_96 ?_
        refine va_iald (f := (cJ σ 0)) hx hb hK hP 3 0 rfl rfl (h.2.2.2.1) d_Pc_moveCell_99 ?_
        refine lv_i2d hx hb d_Pc_moveCell_100 ?_
        refine va_dast (f := (cF σ 0)) hx hb hK hP hD hS 2 1 rfl rfl (vp48 c16 c22) d_Pc_moveCell_101 (fun H locs hP hD hS => ?_)
        have hP : va_P (gD G) classes (cw G (sF σ 0 (vf_upd (cF σ 0) (((cJ σ 0) (cQ σ i 2).toNatClampNeg) + (cQ σ i 4)).toNatClampNeg (FP.i2d ((cJ σ 0) (cQ σ i 3).toNatClampNeg))))) H := hP
        have hD : va_D (gA G) (cw G (sF σ 0 (vf_upd (cF σ 0) (((cJ σ 0) (cQ σ i 2).toNatClampNeg) + (cQ σ i 4)).toNatClampNeg (FP.i2d ((cJ σ 0) (cQ σ i 3).toNatClampNeg))))) := g.d
        refine lv_goto (tgt := 142) hx hb d_Pc_moveCell_102 (by decide) ?_
        refine lv_aload_n hx hb d_Pc_moveCell_142 rfl (lv_at hl 1 rfl) ?_
        refine va_get (D := gD G) (ci := 6) (v := .ref (gad G 9)) (C := R_Pc) (T := F_Pc) (N := 12) hx hb (wl_Pc hT) (fun _ h9 => h9) hown hK hP 0 rfl rfl 6 (by decide) (k_185 hT) (fun _ h9 => h9) rfl d_Pc_moveCell_143 ?_
        refine lv_iload_n hx hb d_Pc_moveCell_146 rfl (lv_at hl 0 rfl) ?_
        refine lv_iconst (v := 4) hx hb d_Pc_moveCell_147 (by decide) ?_
        refine lv_idiv hx hb d_Pc_moveCell_148 (by decide) ?_
        refine cx_V (n := 1) (C := R_Dc) (As := [.int ((((cJ σ 0) (cQ σ i 2).toNatClampNeg) + (cQ σ i 4)) / 4)]) (rest := []) ⟨hx, hb, hml, hown, fun _ h9 => nomatch h9⟩ (K_Dc_misses g (sF σ 0 (vf_upd (cF σ 0) (((cJ σ 0) (cQ σ i 2).toNatClampNeg) + (cQ σ i 4)).toNatClampNeg (FP.i2d ((cJ σ 0) (cQ σ i 3).toNatClampNeg)))) ((((cJ σ 0) (cQ σ i 2).toNatClampNeg) + (cQ σ i 4)) / 4) (ln1 c16 c22) (ln2 c16 c22)) (k_462 hT) (k_463 hT) (k_464 hT) (k_465 hT) (k_5 hT) rfl (by decide +kernel) (va_recv hK hP (ci := 2) (q0 := 9) rfl rfl) (hc.at g hS hP) ⟨by decide, by decide⟩ ⟨by decide, by decide⟩ hl.1 (Nat.le_of_ble_eq_true rfl) d_Pc_moveCell_149 (fun _ h9 => h9) hS (fun _ _ _ _ _ _ _ h9 => h9.elim) (fun v t H locs ht9 hRt hz hk hS => ?_)
        obtain ⟨r, u, rfl, ⟨er, eu⟩, hP⟩ := hRt
        subst er
        rw [eu, ht9] at hP
        have hD : va_D (gA G) (cw G ((dmF (sF σ 0 (vf_upd (cF σ 0) (((cJ σ 0) (cQ σ i 2).toNatClampNeg) + (cQ σ i 4)).toNatClampNeg (FP.i2d ((cJ σ 0) (cQ σ i 3).toNatClampNeg)))) ((((cJ σ 0) (cQ σ i 2).toNatClampNeg) + (cQ σ i 4)) / 4)).2)) := g.d
        refine W.eq (g2 := F0 m 152 ls [.int (b2i (dmF (sF σ 0 (vf_upd (cF σ 0) (((cJ σ 0) (cQ σ i 2).toNatClampNeg) + (cQ σ i 4)).toNatClampNeg (FP.i2d ((cJ σ 0) (cQ σ i 3).toNatClampNeg)))) ((((cJ σ 0) (cQ σ i 2).toNatClampNeg) + (cQ σ i 4)) / 4)).1)]) rfl ?_
        exact end_z (u := ((dmF (sF σ 0 (vf_upd (cF σ 0) (((cJ σ 0) (cQ σ i 2).toNatClampNeg) + (cQ σ i 4)).toNatClampNeg (FP.i2d ((cJ σ 0) (cQ σ i 3).toNatClampNeg)))) ((((cJ σ 0) (cQ σ i 2).toNatClampNeg) + (cQ σ i 4)) / 4)).2)) hx hb hr hlocks hS hP d_Pc_moveCell_152 (nb_b _) (⟨⟨by simp [badA, adF, ix, c16, c22], by simp [mvF, adF, ix, c42_6, c42_7]⟩, by simp [mvF, adF, ix, c42_6, c42_7]⟩)
      by_cases c42_8 : (cQ σ i 0) = 8
      · refine lv_tableIn (tgt := 105) hx hb d_Pc_moveCell_42 (by rw [c42_8]; decide) (by rw [c42_8]; decide) (by rw [c42_8]; rfl) (by decide) ?_
        refine lv_aload_n hx hb d_Pc_moveCell_105 rfl (lv_at hl 1 rfl) ?_
        refine va_get (D := gD G) (ci := 6) (v := .ref (gad G 4)) (C := R_Pc) (T := F_Pc) (N := 12) hx hb (wl_Pc hT) (fun _ h9 => h9) hown hK hP 0 rfl rfl 3 (by decide) (k_182 hT) (fun _ h9 => h9) rfl d_Pc_moveCell_106 ?_
        refine lv_aload_n hx hb d_Pc_moveCell_109 rfl (lv_at hl 2 rfl) ?_
        refine va_get (D := gD G) (ci := 3) (v := .int (cQ σ i 1)) (C := R_In) (T := F_In) (N := 8) hx hb (wl_In hT) (fun _ h9 => h9) hown hK hP (19 + i) (cw_in hi) rfl 1 (by decide) (k_149 hT) (fun _ h9 => h9) rfl d_Pc_moveCell_110 ?_
        refine lv_iconst (v := 4) hx hb d_Pc_moveCell_113 (by decide) ?_
        refine lv_irem hx hb d_Pc_moveCell_114 (by decide) ?_
        refine lv_aload_n hx hb d_Pc_moveCell_115 rfl (lv_at hl 1 rfl) ?_
        refine va_get (D := gD G) (ci := 6) (v := .ref (gad G 2)) (C := R_Pc) (T := F_Pc) (N := 12) hx hb (wl_Pc hT) (fun _ h9 => h9) hown hK hP 0 rfl rfl 1 (by decide) (k_180 hT) (fun _ h9 => h9) rfl d_Pc_moveCell_116 ?_
        refine lv_iload_n hx hb d_Pc_moveCell_119 rfl (lv_at hl 0 rfl) ?_
        refine va_dald (f := (cF σ 0)) hx hb hK hP 2 1 rfl rfl (vp48 c16 c22) d_Pc_moveCell_120 ?_
        refine va_dast (f := (cF σ 1)) hx hb hK hP hD hS 4 1 rfl rfl (m4_in h.2.1) d_Pc_moveCell_121 (fun H locs hP hD hS => ?_)
        have hP : va_P (gD G) classes (cw G (sF σ 1 (vf_upd (cF σ 1) ((cQ σ i 1) - (cQ σ i 1) / 4 * 4).toNatClampNeg ((cF σ 0) (((cJ σ 0) (cQ σ i 2).toNatClampNeg) + (cQ σ i 4)).toNatClampNeg)))) H := hP
        have hD : va_D (gA G) (cw G (sF σ 1 (vf_upd (cF σ 1) ((cQ σ i 1) - (cQ σ i 1) / 4 * 4).toNatClampNeg ((cF σ 0) (((cJ σ 0) (cQ σ i 2).toNatClampNeg) + (cQ σ i 4)).toNatClampNeg)))) := g.d
        refine lv_goto (tgt := 142) hx hb d_Pc_moveCell_122 (by decide) ?_
        refine lv_aload_n hx hb d_Pc_moveCell_142 rfl (lv_at hl 1 rfl) ?_
        refine va_get (D := gD G) (ci := 6) (v := .ref (gad G 9)) (C := R_Pc) (T := F_Pc) (N := 12) hx hb (wl_Pc hT) (fun _ h9 => h9) hown hK hP 0 rfl rfl 6 (by decide) (k_185 hT) (fun _ h9 => h9) rfl d_Pc_moveCell_143 ?_
        refine lv_iload_n hx hb d_Pc_moveCell_146 rfl (lv_at hl 0 rfl) ?_
        refine lv_iconst (v := 4) hx hb d_Pc_moveCell_147 (by decide) ?_
        refine lv_idiv hx hb d_Pc_moveCell_148 (by decide) ?_
        refine cx_V (n := 1) (C := R_Dc) (As := [.int ((((cJ σ 0) (cQ σ i 2).toNatClampNeg) + (cQ σ i 4)) / 4)]) (rest := []) ⟨hx, hb, hml, hown, fun _ h9 => nomatch h9⟩ (K_Dc_misses g (sF σ 1 (vf_upd (cF σ 1) ((cQ σ i 1) - (cQ σ i 1) / 4 * 4).toNatClampNeg ((cF σ 0) (((cJ σ 0) (cQ σ i 2).toNatClampNeg) + (cQ σ i 4)).toNatClampNeg))) ((((cJ σ 0) (cQ σ i 2).toNatClampNeg) + (cQ σ i 4)) / 4) (ln1 c16 c22) (ln2 c16 c22)) (k_462 hT) (k_463 hT) (k_464 hT) (k_465 hT) (k_5 hT) rfl (by decide +kernel) (va_recv hK hP (ci := 2) (q0 := 9) rfl rfl) (hc.at g hS hP) ⟨by decide, by decide⟩ ⟨by decide, by decide⟩ hl.1 (Nat.le_of_ble_eq_true rfl) d_Pc_moveCell_149 (fun _ h9 => h9) hS (fun _ _ _ _ _ _ _ h9 => h9.elim) (fun v t H locs ht9 hRt hz hk hS => ?_)
        obtain ⟨r, u, rfl, ⟨er, eu⟩, hP⟩ := hRt
        subst er
        rw [eu, ht9] at hP
        have hD : va_D (gA G) (cw G ((dmF (sF σ 1 (vf_upd (cF σ 1) ((cQ σ i 1) - (cQ σ i 1) / 4 * 4).toNatClampNeg ((cF σ 0) (((cJ σ 0) (cQ σ i 2).toNatClampNeg) + (cQ σ i 4)).toNatClampNeg))) ((((cJ σ 0) (cQ σ i 2).toNatClampNeg) + (cQ σ i 4)) / 4)).2)) := g.d
        refine W.eq (g2 := F0 m 152 ls [.int (b2i (dmF (sF σ 1 (vf_upd (cF σ 1) ((cQ σ i 1) - (cQ σ i 1) / 4 * 4).toNatClampNeg ((cF σ 0) (((cJ σ 0) (cQ σ i 2).toNatClampNeg) + (cQ σ i 4)).toNatClampNeg))) ((((cJ σ 0) (cQ σ i 2).toNatClampNeg) + (cQ σ i 4)) / 4)).1)]) rfl ?_
        exact end_z (u := ((dmF (sF σ 1 (vf_upd (cF σ 1) ((cQ σ i 1) - (cQ σ i 1) / 4 * 4).toNatClampNeg ((cF σ 0) (((cJ σ 0) (cQ σ i 2).toNatClampNeg) + (cQ σ i 4)).toNatClampNeg))) ((((cJ σ 0) (cQ σ i 2).toNatClampNeg) + (cQ σ i 4)) / 4)).2)) hx hb hr hlocks hS hP d_Pc_moveCell_152 (nb_b _) (⟨⟨by simp [badA, adF, ix, c16, c22], by simp [mvF, adF, ix, c42_6, c42_7, c42_8]⟩, by simp [mvF, adF, ix, c42_6, c42_7, c42_8]⟩)
      refine lv_tableOut (tgt := 125) hx hb d_Pc_moveCell_42 (tsw_out (n := 3) (l := [6, 7, 8]) (by decide) (by decide) (by simp [c42_6, c42_7, c42_8])) (by decide) ?_
      refine lv_aload_n hx hb d_Pc_moveCell_125 rfl (lv_at hl 1 rfl) ?_
      refine va_get (D := gD G) (ci := 6) (v := .ref (gad G 2)) (C := R_Pc) (T := F_Pc) (N := 12) hx hb (wl_Pc hT) (fun _ h9 => h9) hown hK hP 0 rfl rfl 1 (by decide) (k_180 hT) (fun _ h9 => h9) rfl d_Pc_moveCell_126 ?_
      refine lv_iload_n hx hb d_Pc_moveCell_129 rfl (lv_at hl 0 rfl) ?_
      refine lv_aload_n hx hb d_Pc_moveCell_130 rfl (lv_at hl 1 rfl) ?_
      refine va_get (D := gD G) (ci := 6) (v := .ref (gad G 4)) (C := R_Pc) (T := F_Pc) (N := 12) hx hb (wl_Pc hT) (fun _ h9 => h9) hown hK hP 0 rfl rfl 3 (by decide) (k_182 hT) (fun _ h9 => h9) rfl d_Pc_moveCell_131 ?_
      refine lv_aload_n hx hb d_Pc_moveCell_134 rfl (lv_at hl 2 rfl) ?_
      refine va_get (D := gD G) (ci := 3) (v := .int (cQ σ i 3)) (C := R_In) (T := F_In) (N := 8) hx hb (wl_In hT) (fun _ h9 => h9) hown hK hP (19 + i) (cw_in hi) rfl 3 (by decide) (k_153 hT) (fun _ h9 => h9) rfl d_Pc_moveCell_135 ?_
      refine lv_iconst (v := 4) hx hb d_Pc_moveCell_138 (by decide) ?_
      refine lv_irem hx hb d_Pc_moveCell_139 (by decide) ?_
      refine va_dald (f := (cF σ 1)) hx hb hK hP 4 1 rfl rfl (m4_in h.2.2.2.1) d_Pc_moveCell_140 ?_
      refine va_dast (f := (cF σ 0)) hx hb hK hP hD hS 2 1 rfl rfl (vp48 c16 c22) d_Pc_moveCell_141 (fun H locs hP hD hS => ?_)
      have hP : va_P (gD G) classes (cw G (sF σ 0 (vf_upd (cF σ 0) (((cJ σ 0) (cQ σ i 2).toNatClampNeg) + (cQ σ i 4)).toNatClampNeg ((cF σ 1) ((cQ σ i 3) - (cQ σ i 3) / 4 * 4).toNatClampNeg)))) H := hP
      have hD : va_D (gA G) (cw G (sF σ 0 (vf_upd (cF σ 0) (((cJ σ 0) (cQ σ i 2).toNatClampNeg) + (cQ σ i 4)).toNatClampNeg ((cF σ 1) ((cQ σ i 3) - (cQ σ i 3) / 4 * 4).toNatClampNeg)))) := g.d
      refine lv_aload_n hx hb d_Pc_moveCell_142 rfl (lv_at hl 1 rfl) ?_
      refine va_get (D := gD G) (ci := 6) (v := .ref (gad G 9)) (C := R_Pc) (T := F_Pc) (N := 12) hx hb (wl_Pc hT) (fun _ h9 => h9) hown hK hP 0 rfl rfl 6 (by decide) (k_185 hT) (fun _ h9 => h9) rfl d_Pc_moveCell_143 ?_
      refine lv_iload_n hx hb d_Pc_moveCell_146 rfl (lv_at hl 0 rfl) ?_
      refine lv_iconst (v := 4) hx hb d_Pc_moveCell_147 (by decide) ?_
      refine lv_idiv hx hb d_Pc_moveCell_148 (by decide) ?_
      refine cx_V (n := 1) (C := R_Dc) (As := [.int ((((cJ σ 0) (cQ σ i 2).toNatClampNeg) + (cQ σ i 4)) / 4)]) (rest := []) ⟨hx, hb, hml, hown, fun _ h9 => nomatch h9⟩ (K_Dc_misses g (sF σ 0 (vf_upd (cF σ 0) (((cJ σ 0) (cQ σ i 2).toNatClampNeg) + (cQ σ i 4)).toNatClampNeg ((cF σ 1) ((cQ σ i 3) - (cQ σ i 3) / 4 * 4).toNatClampNeg))) ((((cJ σ 0) (cQ σ i 2).toNatClampNeg) + (cQ σ i 4)) / 4) (ln1 c16 c22) (ln2 c16 c22)) (k_462 hT) (k_463 hT) (k_464 hT) (k_465 hT) (k_5 hT) rfl (by decide +kernel) (va_recv hK hP (ci := 2) (q0 := 9) rfl rfl) (hc.at g hS hP) ⟨by decide, by decide⟩ ⟨by decide, by decide⟩ hl.1 (Nat.le_of_ble_eq_true rfl) d_Pc_moveCell_149 (fun _ h9 => h9) hS (fun _ _ _ _ _ _ _ h9 => h9.elim) (fun v t H locs ht9 hRt hz hk hS => ?_)
      obtain ⟨r, u, rfl, ⟨er, eu⟩, hP⟩ := hRt
      subst er
      rw [eu, ht9] at hP
      have hD : va_D (gA G) (cw G ((dmF (sF σ 0 (vf_upd (cF σ 0) (((cJ σ 0) (cQ σ i 2).toNatClampNeg) + (cQ σ i 4)).toNatClampNeg ((cF σ 1) ((cQ σ i 3) - (cQ σ i 3) / 4 * 4).toNatClampNeg))) ((((cJ σ 0) (cQ σ i 2).toNatClampNeg) + (cQ σ i 4)) / 4)).2)) := g.d
      refine W.eq (g2 := F0 m 152 ls [.int (b2i (dmF (sF σ 0 (vf_upd (cF σ 0) (((cJ σ 0) (cQ σ i 2).toNatClampNeg) + (cQ σ i 4)).toNatClampNeg ((cF σ 1) ((cQ σ i 3) - (cQ σ i 3) / 4 * 4).toNatClampNeg))) ((((cJ σ 0) (cQ σ i 2).toNatClampNeg) + (cQ σ i 4)) / 4)).1)]) rfl ?_
      exact end_z (u := ((dmF (sF σ 0 (vf_upd (cF σ 0) (((cJ σ 0) (cQ σ i 2).toNatClampNeg) + (cQ σ i 4)).toNatClampNeg ((cF σ 1) ((cQ σ i 3) - (cQ σ i 3) / 4 * 4).toNatClampNeg))) ((((cJ σ 0) (cQ σ i 2).toNatClampNeg) + (cQ σ i 4)) / 4)).2)) hx hb hr hlocks hS hP d_Pc_moveCell_152 (nb_b _) (⟨⟨by simp [badA, adF, ix, c16, c22], by simp [mvF, adF, ix, c42_6, c42_7, c42_8]⟩, by simp [mvF, adF, ix, c42_6, c42_7, c42_8]⟩)
    · refine lv_aload_n hx hb d_Pc_moveCell_25 rfl (lv_at hl 1 rfl) ?_
      refine lv_iconst (v := 1) hx hb d_Pc_moveCell_26 (by decide) ?_
      refine va_put (D := gD G) (ci := 6) (v := .int 1) (ty := .boolean) (C := R_Pc) (T := F_Pc) (N := 12) hx hb (wl_Pc hT) (fun _ h9 => h9) fy_Pc fy_Pc_ok fn_Pc hown hK hP hD hS 0 rfl rfl 10 (by decide) (k_189 hT) (fun _ h9 => h9) rfl (by decide +kernel) rfl rfl (Nat.le_of_ble_eq_true rfl) d_Pc_moveCell_27 (fun H locs hP hD hS => ?_)
      have hP : va_P (gD G) classes (cw G (sI σ 1 1)) H := hP
      have hD : va_D (gA G) (cw G (sI σ 1 1)) := g.d
      exact cx_throw (own := R_Pc) (cls := "java/lang/IndexOutOfBoundsException") (names := ["java/lang/RuntimeException", "java/lang/Exception"]) (ik := 177) (ic := 179) hx hb g.1 hown (by decide +kernel) (by decide +kernel) (fun U hU hW => ⟨k_443 ((g.tb hc).warm hW), k_15 ((g.tb hc).warm hW), at_IOB_179 g hc hS U hU hW⟩) hS hc.2.1 (by rw [hml]; exact hl.1) d_Pc_moveCell_30 d_Pc_moveCell_33 d_Pc_moveCell_34 d_Pc_moveCell_37 ht hlocks (by decide) (Nat.le_of_ble_eq_true rfl) (by decide) (by decide) (fun t9 _ _ hk => Tw.i (u := (sI σ 1 1)) (⟨rfl, by simp [badA, adF, ix, c16, c22], rfl⟩) (hP.keep hk))

