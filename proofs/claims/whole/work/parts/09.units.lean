/-! CONTRACTS: the caches, the predictor, the clock -/
set_option maxHeartbeats 4000000 in
set_option maxRecDepth 100000 in
theorem K_Cc_misses {l : Launch} {G : GT} (g : GOK l G) (σ : CS) (x : Int32) (h : vp_in (x - x / 2 * 2) 2) : cx_M l y_Cc_misses (.code y_Cc_misses b_Cc_misses 3 (some .boolean)) 0 0 (gA G) [.ref (gad G 7), .int x] (Cw G σ) (Ri G (fun r u => r = b2i (cmF σ x).1 ∧ u = (cmF σ x).2)) (Tn) := by
  refine cx_of (by decide +kernel) ?_
  intro p e s m below meth c s₁ B hml ht hc
  have hx := B.exec
  have hb := B.bytes
  have hr := B.returns
  have hown : s.vm.findClass R_Cc = some m.cls := findClass_of_methodNamed B.named
  have hlocks := B.notSynchronized
  have hT := g.tb hc
  have hK := g.k hc
  have hD := g.d (σ := σ)
  have hS : va_S (gA G) s.heap s.heap [] := va_S.rf
  have hP := hc.2.2
  have hl := lv_entry ([.ref (gad G 7), .int x]) (n := 3) (Nat.le_of_ble_eq_true rfl)
  rw [lg_entry_eq]
  generalize (lg_sl ([.ref (gad G 7), .int x]) ++ List.replicate (3 - (lg_sl ([.ref (gad G 7), .int x])).length) Slot.unset).toArray = ls at hl ⊢
  have hl : lv_has ls 3 [(0, .ref (gad G 7)), (1, .int x)] := hl
  refine lv_iload_n hx hb d_Cc_misses_0 rfl (lv_at hl 1 rfl) ?_
  refine lv_iconst (v := 2) hx hb d_Cc_misses_1 (by decide) ?_
  refine lv_irem hx hb d_Cc_misses_2 (by decide) ?_
  refine lv_istore_n (lv' := [(2, .int (x - x / 2 * 2)), (0, .ref (gad G 7)), (1, .int x)]) hx hb d_Cc_misses_3 rfl hl (by decide) rfl (fun ls hl => ?_)
  refine lv_aload_n hx hb d_Cc_misses_4 rfl (lv_at hl 1 rfl) ?_
  refine va_get (D := gD G) (ci := 1) (v := .ref (gad G 8)) (C := R_Cc) (T := F_Cc) (N := 2) hx hb (wl_Cc hT) (fun _ h9 => h9) hown hK hP 7 rfl rfl 1 (by decide) (k_69 hT) (fun _ h9 => h9) rfl d_Cc_misses_5 ?_
  refine lv_iload_n hx hb d_Cc_misses_8 rfl (lv_at hl 0 rfl) ?_
  refine va_iald (f := (cJ σ 2)) hx hb hK hP 8 0 rfl rfl (h) d_Cc_misses_9 ?_
  refine lv_iload_n hx hb d_Cc_misses_10 rfl (lv_at hl 2 rfl) ?_
  refine lv_icmp_ne (tgt := 16) hx hb d_Cc_misses_11 (by decide) (fun c11 => ?_) (fun c11 => ?_)
  · refine lv_aload_n hx hb d_Cc_misses_16 rfl (lv_at hl 1 rfl) ?_
    refine va_get (D := gD G) (ci := 1) (v := .ref (gad G 8)) (C := R_Cc) (T := F_Cc) (N := 2) hx hb (wl_Cc hT) (fun _ h9 => h9) hown hK hP 7 rfl rfl 1 (by decide) (k_69 hT) (fun _ h9 => h9) rfl d_Cc_misses_17 ?_
    refine lv_iload_n hx hb d_Cc_misses_20 rfl (lv_at hl 0 rfl) ?_
    refine lv_iload_n hx hb d_Cc_misses_21 rfl (lv_at hl 2 rfl) ?_
    refine va_iast (f := (cJ σ 2)) hx hb hK hP hD hS 8 0 rfl rfl (h) d_Cc_misses_22 (fun H locs hP hD hS => ?_)
    have hP : va_P (gD G) classes (cw G (sJ σ 2 (upd (cJ σ 2) (x - x / 2 * 2).toNatClampNeg x))) H := hP
    have hD : va_D (gA G) (cw G (sJ σ 2 (upd (cJ σ 2) (x - x / 2 * 2).toNatClampNeg x))) := g.d
    refine lv_aload_n hx hb d_Cc_misses_23 rfl (lv_at hl 1 rfl) ?_
    refine lv_dup hx hb d_Cc_misses_24 rfl ?_
    refine va_get (D := gD G) (ci := 1) (v := .int (cI σ 7)) (C := R_Cc) (T := F_Cc) (N := 2) hx hb (wl_Cc hT) (fun _ h9 => h9) hown hK hP 7 rfl rfl 0 (by decide) (k_67 hT) (fun _ h9 => h9) rfl d_Cc_misses_25 ?_
    refine lv_iconst (v := 1) hx hb d_Cc_misses_28 (by decide) ?_
    refine lv_iadd hx hb d_Cc_misses_29 ?_
    refine va_put (D := gD G) (ci := 1) (v := .int ((cI σ 7) + 1)) (ty := .int) (C := R_Cc) (T := F_Cc) (N := 2) hx hb (wl_Cc hT) (fun _ h9 => h9) fy_Cc fy_Cc_ok fn_Cc hown hK hP hD hS 7 rfl rfl 0 (by decide) (k_67 hT) (fun _ h9 => h9) rfl (by decide +kernel) rfl rfl (Nat.le_of_ble_eq_true rfl) d_Cc_misses_30 (fun H locs hP hD hS => ?_)
    have hP : va_P (gD G) classes (cw G (sI (sJ σ 2 (upd (cJ σ 2) (x - x / 2 * 2).toNatClampNeg x)) 7 ((cI σ 7) + 1))) H := hP
    have hD : va_D (gA G) (cw G (sI (sJ σ 2 (upd (cJ σ 2) (x - x / 2 * 2).toNatClampNeg x)) 7 ((cI σ 7) + 1))) := g.d
    refine lv_iconst (v := 1) hx hb d_Cc_misses_33 (by decide) ?_
    exact end_z (u := (sI (sJ σ 2 (upd (cJ σ 2) (x - x / 2 * 2).toNatClampNeg x)) 7 ((cI σ 7) + 1))) hx hb hr hlocks hS hP d_Cc_misses_34 rfl (⟨by first | (simp [cmF, b2i, cI_sI, cJ_sI, cF_sI, cP_sI, cQ_sI, cI_sJ, cJ_sJ, cF_sJ, cP_sJ, cQ_sJ, cI_sF, cJ_sF, cF_sF, cP_sF, cQ_sF, cI_sP, cJ_sP, cF_sP, cP_sP, cQ_sP, ix, m4, c11]; done) | (revert c11; simp [cmF, b2i, cI_sI, cJ_sI, cF_sI, cP_sI, cQ_sI, cI_sJ, cJ_sJ, cF_sJ, cP_sJ, cQ_sJ, cI_sF, cJ_sF, cF_sF, cP_sF, cQ_sF, cI_sP, cJ_sP, cF_sP, cP_sP, cQ_sP, ix, m4]), by first | (simp [cmF, b2i, cI_sI, cJ_sI, cF_sI, cP_sI, cQ_sI, cI_sJ, cJ_sJ, cF_sJ, cP_sJ, cQ_sJ, cI_sF, cJ_sF, cF_sF, cP_sF, cQ_sF, cI_sP, cJ_sP, cF_sP, cP_sP, cQ_sP, ix, m4, c11]; done) | (revert c11; simp [cmF, b2i, cI_sI, cJ_sI, cF_sI, cP_sI, cQ_sI, cI_sJ, cJ_sJ, cF_sJ, cP_sJ, cQ_sJ, cI_sF, cJ_sF, cF_sF, cP_sF, cQ_sF, cI_sP, cJ_sP, cF_sP, cP_sP, cQ_sP, ix, m4])⟩)
  · refine lv_iconst (v := 0) hx hb d_Cc_misses_14 (by decide) ?_
    exact end_z (u := σ) hx hb hr hlocks hS hP d_Cc_misses_15 rfl (⟨by first | (simp [cmF, b2i, cI_sI, cJ_sI, cF_sI, cP_sI, cQ_sI, cI_sJ, cJ_sJ, cF_sJ, cP_sJ, cQ_sJ, cI_sF, cJ_sF, cF_sF, cP_sF, cQ_sF, cI_sP, cJ_sP, cF_sP, cP_sP, cQ_sP, ix, m4, c11]; done) | (revert c11; simp [cmF, b2i, cI_sI, cJ_sI, cF_sI, cP_sI, cQ_sI, cI_sJ, cJ_sJ, cF_sJ, cP_sJ, cQ_sJ, cI_sF, cJ_sF, cF_sF, cP_sF, cQ_sF, cI_sP, cJ_sP, cF_sP, cP_sP, cQ_sP, ix, m4]), by first | (simp [cmF, b2i, cI_sI, cJ_sI, cF_sI, cP_sI, cQ_sI, cI_sJ, cJ_sJ, cF_sJ, cP_sJ, cQ_sJ, cI_sF, cJ_sF, cF_sF, cP_sF, cQ_sF, cI_sP, cJ_sP, cF_sP, cP_sP, cQ_sP, ix, m4, c11]; done) | (revert c11; simp [cmF, b2i, cI_sI, cJ_sI, cF_sI, cP_sI, cQ_sI, cI_sJ, cJ_sJ, cF_sJ, cP_sJ, cQ_sJ, cI_sF, cJ_sF, cF_sF, cP_sF, cQ_sF, cI_sP, cJ_sP, cF_sP, cP_sP, cQ_sP, ix, m4])⟩)

set_option maxHeartbeats 4000000 in
set_option maxRecDepth 100000 in
theorem K_Dc_misses {l : Launch} {G : GT} (g : GOK l G) (σ : CS) (x : Int32) (h1 : vp_in ((x - x / 2 * 2) * 2) 4) (h2 : vp_in ((x - x / 2 * 2) * 2 + 1) 4) : cx_M l y_Dc_misses (.code y_Dc_misses b_Dc_misses 5 (some .boolean)) 0 0 (gA G) [.ref (gad G 9), .int x] (Cw G σ) (Ri G (fun r u => r = b2i (dmF σ x).1 ∧ u = (dmF σ x).2)) (Tn) := by
  refine cx_of (by decide +kernel) ?_
  intro p e s m below meth c s₁ B hml ht hc
  have hx := B.exec
  have hb := B.bytes
  have hr := B.returns
  have hown : s.vm.findClass R_Dc = some m.cls := findClass_of_methodNamed B.named
  have hlocks := B.notSynchronized
  have hT := g.tb hc
  have hK := g.k hc
  have hD := g.d (σ := σ)
  have hS : va_S (gA G) s.heap s.heap [] := va_S.rf
  have hP := hc.2.2
  have hl := lv_entry ([.ref (gad G 9), .int x]) (n := 5) (Nat.le_of_ble_eq_true rfl)
  rw [lg_entry_eq]
  generalize (lg_sl ([.ref (gad G 9), .int x]) ++ List.replicate (5 - (lg_sl ([.ref (gad G 9), .int x])).length) Slot.unset).toArray = ls at hl ⊢
  have hl : lv_has ls 5 [(0, .ref (gad G 9)), (1, .int x)] := hl
  refine lv_iload_n hx hb d_Dc_misses_0 rfl (lv_at hl 1 rfl) ?_
  refine lv_iconst (v := 2) hx hb d_Dc_misses_1 (by decide) ?_
  refine lv_irem hx hb d_Dc_misses_2 (by decide) ?_
  refine lv_iconst (v := 2) hx hb d_Dc_misses_3 (by decide) ?_
  refine lv_imul hx hb d_Dc_misses_4 ?_
  refine lv_istore_n (lv' := [(2, .int ((x - x / 2 * 2) * 2)), (0, .ref (gad G 9)), (1, .int x)]) hx hb d_Dc_misses_5 rfl hl (by decide) rfl (fun ls hl => ?_)
  refine lv_iload_n hx hb d_Dc_misses_6 rfl (lv_at hl 0 rfl) ?_
  refine lv_iconst (v := 1) hx hb d_Dc_misses_7 (by decide) ?_
  refine lv_iadd hx hb d_Dc_misses_8 ?_
  refine lv_istore_n (lv' := [(3, .int (((x - x / 2 * 2) * 2) + 1)), (2, .int ((x - x / 2 * 2) * 2)), (0, .ref (gad G 9)), (1, .int x)]) hx hb d_Dc_misses_9 rfl hl (by decide) rfl (fun ls hl => ?_)
  refine lv_aload_n hx hb d_Dc_misses_10 rfl (lv_at hl 2 rfl) ?_
  refine lv_dup hx hb d_Dc_misses_11 rfl ?_
  refine va_get (D := gD G) (ci := 2) (v := .int (cI σ 9)) (C := R_Dc) (T := F_Dc) (N := 4) hx hb (wl_Dc hT) (fun _ h9 => h9) hown hK hP 9 rfl rfl 3 (by decide) (k_90 hT) (fun _ h9 => h9) rfl d_Dc_misses_12 ?_
  refine lv_iconst (v := 1) hx hb d_Dc_misses_15 (by decide) ?_
  refine lv_iadd hx hb d_Dc_misses_16 ?_
  refine va_put (D := gD G) (ci := 2) (v := .int ((cI σ 9) + 1)) (ty := .int) (C := R_Dc) (T := F_Dc) (N := 4) hx hb (wl_Dc hT) (fun _ h9 => h9) fy_Dc fy_Dc_ok fn_Dc hown hK hP hD hS 9 rfl rfl 3 (by decide) (k_90 hT) (fun _ h9 => h9) rfl (by decide +kernel) rfl rfl (Nat.le_of_ble_eq_true rfl) d_Dc_misses_17 (fun H locs hP hD hS => ?_)
  have hP : va_P (gD G) classes (cw G (sI σ 9 ((cI σ 9) + 1))) H := hP
  have hD : va_D (gA G) (cw G (sI σ 9 ((cI σ 9) + 1))) := g.d
  refine lv_aload_n hx hb d_Dc_misses_20 rfl (lv_at hl 2 rfl) ?_
  refine va_get (D := gD G) (ci := 2) (v := .ref (gad G 10)) (C := R_Dc) (T := F_Dc) (N := 4) hx hb (wl_Dc hT) (fun _ h9 => h9) hown hK hP 9 rfl rfl 1 (by decide) (k_88 hT) (fun _ h9 => h9) rfl d_Dc_misses_21 ?_
  refine lv_iload_n hx hb d_Dc_misses_24 rfl (lv_at hl 1 rfl) ?_
  refine va_iald (f := (cJ σ 3)) hx hb hK hP 10 0 rfl rfl (h1) d_Dc_misses_25 ?_
  refine lv_iload_n hx hb d_Dc_misses_26 rfl (lv_at hl 3 rfl) ?_
  refine lv_icmp_eq (tgt := 40) hx hb d_Dc_misses_27 (by decide) (fun c27 => ?_) (fun c27 => ?_)
  · refine lv_aload_n hx hb d_Dc_misses_40 rfl (lv_at hl 2 rfl) ?_
    refine va_get (D := gD G) (ci := 2) (v := .ref (gad G 11)) (C := R_Dc) (T := F_Dc) (N := 4) hx hb (wl_Dc hT) (fun _ h9 => h9) hown hK hP 9 rfl rfl 2 (by decide) (k_89 hT) (fun _ h9 => h9) rfl d_Dc_misses_41 ?_
    refine lv_aload_n hx hb d_Dc_misses_44 rfl (lv_at hl 2 rfl) ?_
    refine va_get (D := gD G) (ci := 2) (v := .ref (gad G 10)) (C := R_Dc) (T := F_Dc) (N := 4) hx hb (wl_Dc hT) (fun _ h9 => h9) hown hK hP 9 rfl rfl 1 (by decide) (k_88 hT) (fun _ h9 => h9) rfl d_Dc_misses_45 ?_
    refine lv_iload_n hx hb d_Dc_misses_48 rfl (lv_at hl 1 rfl) ?_
    refine va_iald (f := (cJ σ 3)) hx hb hK hP 10 0 rfl rfl (h1) d_Dc_misses_49 ?_
    refine lv_iload_n hx hb d_Dc_misses_50 rfl (lv_at hl 3 rfl) ?_
    refine lv_icmp_ne (tgt := 58) hx hb d_Dc_misses_51 (by decide) (fun c51 => ?_) (fun c51 => ?_)
    · exact absurd c27 c51
    · refine lv_iload_n hx hb d_Dc_misses_54 rfl (lv_at hl 1 rfl) ?_
      refine lv_goto (tgt := 59) hx hb d_Dc_misses_55 (by decide) ?_
      refine lv_aload_n hx hb d_Dc_misses_59 rfl (lv_at hl 2 rfl) ?_
      refine va_get (D := gD G) (ci := 2) (v := .int ((cI σ 9) + 1)) (C := R_Dc) (T := F_Dc) (N := 4) hx hb (wl_Dc hT) (fun _ h9 => h9) hown hK hP 9 rfl rfl 3 (by decide) (k_90 hT) (fun _ h9 => h9) rfl d_Dc_misses_60 ?_
      refine va_iast (f := (cJ σ 4)) hx hb hK hP hD hS 11 0 rfl rfl (h1) d_Dc_misses_63 (fun H locs hP hD hS => ?_)
      have hP : va_P (gD G) classes (cw G (sJ (sI σ 9 ((cI σ 9) + 1)) 4 (upd (cJ σ 4) ((x - x / 2 * 2) * 2).toNatClampNeg ((cI σ 9) + 1)))) H := hP
      have hD : va_D (gA G) (cw G (sJ (sI σ 9 ((cI σ 9) + 1)) 4 (upd (cJ σ 4) ((x - x / 2 * 2) * 2).toNatClampNeg ((cI σ 9) + 1)))) := g.d
      refine lv_iconst (v := 0) hx hb d_Dc_misses_64 (by decide) ?_
      exact end_z (u := (sJ (sI σ 9 ((cI σ 9) + 1)) 4 (upd (cJ σ 4) ((x - x / 2 * 2) * 2).toNatClampNeg ((cI σ 9) + 1)))) hx hb hr hlocks hS hP d_Dc_misses_65 rfl (⟨by first | (simp [dmF, b2i, cI_sI, cJ_sI, cF_sI, cP_sI, cQ_sI, cI_sJ, cJ_sJ, cF_sJ, cP_sJ, cQ_sJ, cI_sF, cJ_sF, cF_sF, cP_sF, cQ_sF, cI_sP, cJ_sP, cF_sP, cP_sP, cQ_sP, ix, m4, c27, c51]; done) | (revert c27 c51; simp [dmF, b2i, cI_sI, cJ_sI, cF_sI, cP_sI, cQ_sI, cI_sJ, cJ_sJ, cF_sJ, cP_sJ, cQ_sJ, cI_sF, cJ_sF, cF_sF, cP_sF, cQ_sF, cI_sP, cJ_sP, cF_sP, cP_sP, cQ_sP, ix, m4]), by first | (simp [dmF, b2i, cI_sI, cJ_sI, cF_sI, cP_sI, cQ_sI, cI_sJ, cJ_sJ, cF_sJ, cP_sJ, cQ_sJ, cI_sF, cJ_sF, cF_sF, cP_sF, cQ_sF, cI_sP, cJ_sP, cF_sP, cP_sP, cQ_sP, ix, m4, c27, c51]; done) | (revert c27 c51; simp [dmF, b2i, cI_sI, cJ_sI, cF_sI, cP_sI, cQ_sI, cI_sJ, cJ_sJ, cF_sJ, cP_sJ, cQ_sJ, cI_sF, cJ_sF, cF_sF, cP_sF, cQ_sF, cI_sP, cJ_sP, cF_sP, cP_sP, cQ_sP, ix, m4])⟩)
  · refine lv_aload_n hx hb d_Dc_misses_30 rfl (lv_at hl 2 rfl) ?_
    refine va_get (D := gD G) (ci := 2) (v := .ref (gad G 10)) (C := R_Dc) (T := F_Dc) (N := 4) hx hb (wl_Dc hT) (fun _ h9 => h9) hown hK hP 9 rfl rfl 1 (by decide) (k_88 hT) (fun _ h9 => h9) rfl d_Dc_misses_31 ?_
    refine lv_iload_n hx hb d_Dc_misses_34 rfl (lv_at hl 0 rfl) ?_
    refine va_iald (f := (cJ σ 3)) hx hb hK hP 10 0 rfl rfl (h2) d_Dc_misses_35 ?_
    refine lv_iload_n hx hb d_Dc_misses_36 rfl (lv_at hl 3 rfl) ?_
    refine lv_icmp_ne (tgt := 66) hx hb d_Dc_misses_37 (by decide) (fun c37 => ?_) (fun c37 => ?_)
    · refine lv_aload_n hx hb d_Dc_misses_66 rfl (lv_at hl 2 rfl) ?_
      refine va_get (D := gD G) (ci := 2) (v := .ref (gad G 11)) (C := R_Dc) (T := F_Dc) (N := 4) hx hb (wl_Dc hT) (fun _ h9 => h9) hown hK hP 9 rfl rfl 2 (by decide) (k_89 hT) (fun _ h9 => h9) rfl d_Dc_misses_67 ?_
      refine lv_iload_n hx hb d_Dc_misses_70 rfl (lv_at hl 1 rfl) ?_
      refine va_iald (f := (cJ σ 4)) hx hb hK hP 11 0 rfl rfl (h1) d_Dc_misses_71 ?_
      refine lv_aload_n hx hb d_Dc_misses_72 rfl (lv_at hl 2 rfl) ?_
      refine va_get (D := gD G) (ci := 2) (v := .ref (gad G 11)) (C := R_Dc) (T := F_Dc) (N := 4) hx hb (wl_Dc hT) (fun _ h9 => h9) hown hK hP 9 rfl rfl 2 (by decide) (k_89 hT) (fun _ h9 => h9) rfl d_Dc_misses_73 ?_
      refine lv_iload_n hx hb d_Dc_misses_76 rfl (lv_at hl 0 rfl) ?_
      refine va_iald (f := (cJ σ 4)) hx hb hK hP 11 0 rfl rfl (h2) d_Dc_misses_77 ?_
      refine lv_icmp_gt (tgt := 85) hx hb d_Dc_misses_78 (by decide) (fun c78 => ?_) (fun c78 => ?_)
      · refine lv_iload_n hx hb d_Dc_misses_85 rfl (lv_at hl 0 rfl) ?_
        refine lv_istore (lv' := [(4, .int (((x - x / 2 * 2) * 2) + 1)), (3, .int (((x - x / 2 * 2) * 2) + 1)), (2, .int ((x - x / 2 * 2) * 2)), (0, .ref (gad G 9)), (1, .int x)]) hx hb d_Dc_misses_86 hl (by decide) rfl (fun ls hl => ?_)
        refine lv_aload_n hx hb d_Dc_misses_88 rfl (lv_at hl 3 rfl) ?_
        refine va_get (D := gD G) (ci := 2) (v := .ref (gad G 10)) (C := R_Dc) (T := F_Dc) (N := 4) hx hb (wl_Dc hT) (fun _ h9 => h9) hown hK hP 9 rfl rfl 1 (by decide) (k_88 hT) (fun _ h9 => h9) rfl d_Dc_misses_89 ?_
        refine lv_iload hx hb d_Dc_misses_92 (lv_at hl 0 rfl) ?_
        refine lv_iload_n hx hb d_Dc_misses_94 rfl (lv_at hl 4 rfl) ?_
        refine va_iast (f := (cJ σ 3)) hx hb hK hP hD hS 10 0 rfl rfl (h2) d_Dc_misses_95 (fun H locs hP hD hS => ?_)
        have hP : va_P (gD G) classes (cw G (sJ (sI σ 9 ((cI σ 9) + 1)) 3 (upd (cJ σ 3) (((x - x / 2 * 2) * 2) + 1).toNatClampNeg x))) H := hP
        have hD : va_D (gA G) (cw G (sJ (sI σ 9 ((cI σ 9) + 1)) 3 (upd (cJ σ 3) (((x - x / 2 * 2) * 2) + 1).toNatClampNeg x))) := g.d
        refine lv_aload_n hx hb d_Dc_misses_96 rfl (lv_at hl 3 rfl) ?_
        refine va_get (D := gD G) (ci := 2) (v := .ref (gad G 11)) (C := R_Dc) (T := F_Dc) (N := 4) hx hb (wl_Dc hT) (fun _ h9 => h9) hown hK hP 9 rfl rfl 2 (by decide) (k_89 hT) (fun _ h9 => h9) rfl d_Dc_misses_97 ?_
        refine lv_iload hx hb d_Dc_misses_100 (lv_at hl 0 rfl) ?_
        refine lv_aload_n hx hb d_Dc_misses_102 rfl (lv_at hl 3 rfl) ?_
        refine va_get (D := gD G) (ci := 2) (v := .int ((cI σ 9) + 1)) (C := R_Dc) (T := F_Dc) (N := 4) hx hb (wl_Dc hT) (fun _ h9 => h9) hown hK hP 9 rfl rfl 3 (by decide) (k_90 hT) (fun _ h9 => h9) rfl d_Dc_misses_103 ?_
        refine va_iast (f := (cJ σ 4)) hx hb hK hP hD hS 11 0 rfl rfl (h2) d_Dc_misses_106 (fun H locs hP hD hS => ?_)
        have hP : va_P (gD G) classes (cw G (sJ (sJ (sI σ 9 ((cI σ 9) + 1)) 3 (upd (cJ σ 3) (((x - x / 2 * 2) * 2) + 1).toNatClampNeg x)) 4 (upd (cJ σ 4) (((x - x / 2 * 2) * 2) + 1).toNatClampNeg ((cI σ 9) + 1)))) H := hP
        have hD : va_D (gA G) (cw G (sJ (sJ (sI σ 9 ((cI σ 9) + 1)) 3 (upd (cJ σ 3) (((x - x / 2 * 2) * 2) + 1).toNatClampNeg x)) 4 (upd (cJ σ 4) (((x - x / 2 * 2) * 2) + 1).toNatClampNeg ((cI σ 9) + 1)))) := g.d
        refine lv_aload_n hx hb d_Dc_misses_107 rfl (lv_at hl 3 rfl) ?_
        refine lv_dup hx hb d_Dc_misses_108 rfl ?_
        refine va_get (D := gD G) (ci := 2) (v := .int (cI σ 8)) (C := R_Dc) (T := F_Dc) (N := 4) hx hb (wl_Dc hT) (fun _ h9 => h9) hown hK hP 9 rfl rfl 0 (by decide) (k_86 hT) (fun _ h9 => h9) rfl d_Dc_misses_109 ?_
        refine lv_iconst (v := 1) hx hb d_Dc_misses_112 (by decide) ?_
        refine lv_iadd hx hb d_Dc_misses_113 ?_
        refine va_put (D := gD G) (ci := 2) (v := .int ((cI σ 8) + 1)) (ty := .int) (C := R_Dc) (T := F_Dc) (N := 4) hx hb (wl_Dc hT) (fun _ h9 => h9) fy_Dc fy_Dc_ok fn_Dc hown hK hP hD hS 9 rfl rfl 0 (by decide) (k_86 hT) (fun _ h9 => h9) rfl (by decide +kernel) rfl rfl (Nat.le_of_ble_eq_true rfl) d_Dc_misses_114 (fun H locs hP hD hS => ?_)
        have hP : va_P (gD G) classes (cw G (sI (sJ (sJ (sI σ 9 ((cI σ 9) + 1)) 3 (upd (cJ σ 3) (((x - x / 2 * 2) * 2) + 1).toNatClampNeg x)) 4 (upd (cJ σ 4) (((x - x / 2 * 2) * 2) + 1).toNatClampNeg ((cI σ 9) + 1))) 8 ((cI σ 8) + 1))) H := hP
        have hD : va_D (gA G) (cw G (sI (sJ (sJ (sI σ 9 ((cI σ 9) + 1)) 3 (upd (cJ σ 3) (((x - x / 2 * 2) * 2) + 1).toNatClampNeg x)) 4 (upd (cJ σ 4) (((x - x / 2 * 2) * 2) + 1).toNatClampNeg ((cI σ 9) + 1))) 8 ((cI σ 8) + 1))) := g.d
        refine lv_iconst (v := 1) hx hb d_Dc_misses_117 (by decide) ?_
        exact end_z (u := (sI (sJ (sJ (sI σ 9 ((cI σ 9) + 1)) 3 (upd (cJ σ 3) (((x - x / 2 * 2) * 2) + 1).toNatClampNeg x)) 4 (upd (cJ σ 4) (((x - x / 2 * 2) * 2) + 1).toNatClampNeg ((cI σ 9) + 1))) 8 ((cI σ 8) + 1))) hx hb hr hlocks hS hP d_Dc_misses_118 rfl (⟨by first | (simp [dmF, b2i, cI_sI, cJ_sI, cF_sI, cP_sI, cQ_sI, cI_sJ, cJ_sJ, cF_sJ, cP_sJ, cQ_sJ, cI_sF, cJ_sF, cF_sF, cP_sF, cQ_sF, cI_sP, cJ_sP, cF_sP, cP_sP, cQ_sP, ix, m4, c27, c37, c78]; done) | (revert c27 c37 c78; simp [dmF, b2i, cI_sI, cJ_sI, cF_sI, cP_sI, cQ_sI, cI_sJ, cJ_sJ, cF_sJ, cP_sJ, cQ_sJ, cI_sF, cJ_sF, cF_sF, cP_sF, cQ_sF, cI_sP, cJ_sP, cF_sP, cP_sP, cQ_sP, ix, m4]), by first | (simp [dmF, b2i, cI_sI, cJ_sI, cF_sI, cP_sI, cQ_sI, cI_sJ, cJ_sJ, cF_sJ, cP_sJ, cQ_sJ, cI_sF, cJ_sF, cF_sF, cP_sF, cQ_sF, cI_sP, cJ_sP, cF_sP, cP_sP, cQ_sP, ix, m4, c27, c37, c78]; done) | (revert c27 c37 c78; simp [dmF, b2i, cI_sI, cJ_sI, cF_sI, cP_sI, cQ_sI, cI_sJ, cJ_sJ, cF_sJ, cP_sJ, cQ_sJ, cI_sF, cJ_sF, cF_sF, cP_sF, cQ_sF, cI_sP, cJ_sP, cF_sP, cP_sP, cQ_sP, ix, m4])⟩)
      · refine lv_iload_n hx hb d_Dc_misses_81 rfl (lv_at hl 1 rfl) ?_
        refine lv_goto (tgt := 86) hx hb d_Dc_misses_82 (by decide) ?_
        refine lv_istore (lv' := [(4, .int ((x - x / 2 * 2) * 2)), (3, .int (((x - x / 2 * 2) * 2) + 1)), (2, .int ((x - x / 2 * 2) * 2)), (0, .ref (gad G 9)), (1, .int x)]) hx hb d_Dc_misses_86 hl (by decide) rfl (fun ls hl => ?_)
        refine lv_aload_n hx hb d_Dc_misses_88 rfl (lv_at hl 3 rfl) ?_
        refine va_get (D := gD G) (ci := 2) (v := .ref (gad G 10)) (C := R_Dc) (T := F_Dc) (N := 4) hx hb (wl_Dc hT) (fun _ h9 => h9) hown hK hP 9 rfl rfl 1 (by decide) (k_88 hT) (fun _ h9 => h9) rfl d_Dc_misses_89 ?_
        refine lv_iload hx hb d_Dc_misses_92 (lv_at hl 0 rfl) ?_
        refine lv_iload_n hx hb d_Dc_misses_94 rfl (lv_at hl 4 rfl) ?_
        refine va_iast (f := (cJ σ 3)) hx hb hK hP hD hS 10 0 rfl rfl (h1) d_Dc_misses_95 (fun H locs hP hD hS => ?_)
        have hP : va_P (gD G) classes (cw G (sJ (sI σ 9 ((cI σ 9) + 1)) 3 (upd (cJ σ 3) ((x - x / 2 * 2) * 2).toNatClampNeg x))) H := hP
        have hD : va_D (gA G) (cw G (sJ (sI σ 9 ((cI σ 9) + 1)) 3 (upd (cJ σ 3) ((x - x / 2 * 2) * 2).toNatClampNeg x))) := g.d
        refine lv_aload_n hx hb d_Dc_misses_96 rfl (lv_at hl 3 rfl) ?_
        refine va_get (D := gD G) (ci := 2) (v := .ref (gad G 11)) (C := R_Dc) (T := F_Dc) (N := 4) hx hb (wl_Dc hT) (fun _ h9 => h9) hown hK hP 9 rfl rfl 2 (by decide) (k_89 hT) (fun _ h9 => h9) rfl d_Dc_misses_97 ?_
        refine lv_iload hx hb d_Dc_misses_100 (lv_at hl 0 rfl) ?_
        refine lv_aload_n hx hb d_Dc_misses_102 rfl (lv_at hl 3 rfl) ?_
        refine va_get (D := gD G) (ci := 2) (v := .int ((cI σ 9) + 1)) (C := R_Dc) (T := F_Dc) (N := 4) hx hb (wl_Dc hT) (fun _ h9 => h9) hown hK hP 9 rfl rfl 3 (by decide) (k_90 hT) (fun _ h9 => h9) rfl d_Dc_misses_103 ?_
        refine va_iast (f := (cJ σ 4)) hx hb hK hP hD hS 11 0 rfl rfl (h1) d_Dc_misses_106 (fun H locs hP hD hS => ?_)
        have hP : va_P (gD G) classes (cw G (sJ (sJ (sI σ 9 ((cI σ 9) + 1)) 3 (upd (cJ σ 3) ((x - x / 2 * 2) * 2).toNatClampNeg x)) 4 (upd (cJ σ 4) ((x - x / 2 * 2) * 2).toNatClampNeg ((cI σ 9) + 1)))) H := hP
        have hD : va_D (gA G) (cw G (sJ (sJ (sI σ 9 ((cI σ 9) + 1)) 3 (upd (cJ σ 3) ((x - x / 2 * 2) * 2).toNatClampNeg x)) 4 (upd (cJ σ 4) ((x - x / 2 * 2) * 2).toNatClampNeg ((cI σ 9) + 1)))) := g.d
        refine lv_aload_n hx hb d_Dc_misses_107 rfl (lv_at hl 3 rfl) ?_
        refine lv_dup hx hb d_Dc_misses_108 rfl ?_
        refine va_get (D := gD G) (ci := 2) (v := .int (cI σ 8)) (C := R_Dc) (T := F_Dc) (N := 4) hx hb (wl_Dc hT) (fun _ h9 => h9) hown hK hP 9 rfl rfl 0 (by decide) (k_86 hT) (fun _ h9 => h9) rfl d_Dc_misses_109 ?_
        refine lv_iconst (v := 1) hx hb d_Dc_misses_112 (by decide) ?_
        refine lv_iadd hx hb d_Dc_misses_113 ?_
        refine va_put (D := gD G) (ci := 2) (v := .int ((cI σ 8) + 1)) (ty := .int) (C := R_Dc) (T := F_Dc) (N := 4) hx hb (wl_Dc hT) (fun _ h9 => h9) fy_Dc fy_Dc_ok fn_Dc hown hK hP hD hS 9 rfl rfl 0 (by decide) (k_86 hT) (fun _ h9 => h9) rfl (by decide +kernel) rfl rfl (Nat.le_of_ble_eq_true rfl) d_Dc_misses_114 (fun H locs hP hD hS => ?_)
        have hP : va_P (gD G) classes (cw G (sI (sJ (sJ (sI σ 9 ((cI σ 9) + 1)) 3 (upd (cJ σ 3) ((x - x / 2 * 2) * 2).toNatClampNeg x)) 4 (upd (cJ σ 4) ((x - x / 2 * 2) * 2).toNatClampNeg ((cI σ 9) + 1))) 8 ((cI σ 8) + 1))) H := hP
        have hD : va_D (gA G) (cw G (sI (sJ (sJ (sI σ 9 ((cI σ 9) + 1)) 3 (upd (cJ σ 3) ((x - x / 2 * 2) * 2).toNatClampNeg x)) 4 (upd (cJ σ 4) ((x - x / 2 * 2) * 2).toNatClampNeg ((cI σ 9) + 1))) 8 ((cI σ 8) + 1))) := g.d
        refine lv_iconst (v := 1) hx hb d_Dc_misses_117 (by decide) ?_
        exact end_z (u := (sI (sJ (sJ (sI σ 9 ((cI σ 9) + 1)) 3 (upd (cJ σ 3) ((x - x / 2 * 2) * 2).toNatClampNeg x)) 4 (upd (cJ σ 4) ((x - x / 2 * 2) * 2).toNatClampNeg ((cI σ 9) + 1))) 8 ((cI σ 8) + 1))) hx hb hr hlocks hS hP d_Dc_misses_118 rfl (⟨by first | (simp [dmF, b2i, cI_sI, cJ_sI, cF_sI, cP_sI, cQ_sI, cI_sJ, cJ_sJ, cF_sJ, cP_sJ, cQ_sJ, cI_sF, cJ_sF, cF_sF, cP_sF, cQ_sF, cI_sP, cJ_sP, cF_sP, cP_sP, cQ_sP, ix, m4, c27, c37, c78]; done) | (revert c27 c37 c78; simp [dmF, b2i, cI_sI, cJ_sI, cF_sI, cP_sI, cQ_sI, cI_sJ, cJ_sJ, cF_sJ, cP_sJ, cQ_sJ, cI_sF, cJ_sF, cF_sF, cP_sF, cQ_sF, cI_sP, cJ_sP, cF_sP, cP_sP, cQ_sP, ix, m4]), by first | (simp [dmF, b2i, cI_sI, cJ_sI, cF_sI, cP_sI, cQ_sI, cI_sJ, cJ_sJ, cF_sJ, cP_sJ, cQ_sJ, cI_sF, cJ_sF, cF_sF, cP_sF, cQ_sF, cI_sP, cJ_sP, cF_sP, cP_sP, cQ_sP, ix, m4, c27, c37, c78]; done) | (revert c27 c37 c78; simp [dmF, b2i, cI_sI, cJ_sI, cF_sI, cP_sI, cQ_sI, cI_sJ, cJ_sJ, cF_sJ, cP_sJ, cQ_sJ, cI_sF, cJ_sF, cF_sF, cP_sF, cQ_sF, cI_sP, cJ_sP, cF_sP, cP_sP, cQ_sP, ix, m4])⟩)
    · refine lv_aload_n hx hb d_Dc_misses_40 rfl (lv_at hl 2 rfl) ?_
      refine va_get (D := gD G) (ci := 2) (v := .ref (gad G 11)) (C := R_Dc) (T := F_Dc) (N := 4) hx hb (wl_Dc hT) (fun _ h9 => h9) hown hK hP 9 rfl rfl 2 (by decide) (k_89 hT) (fun _ h9 => h9) rfl d_Dc_misses_41 ?_
      refine lv_aload_n hx hb d_Dc_misses_44 rfl (lv_at hl 2 rfl) ?_
      refine va_get (D := gD G) (ci := 2) (v := .ref (gad G 10)) (C := R_Dc) (T := F_Dc) (N := 4) hx hb (wl_Dc hT) (fun _ h9 => h9) hown hK hP 9 rfl rfl 1 (by decide) (k_88 hT) (fun _ h9 => h9) rfl d_Dc_misses_45 ?_
      refine lv_iload_n hx hb d_Dc_misses_48 rfl (lv_at hl 1 rfl) ?_
      refine va_iald (f := (cJ σ 3)) hx hb hK hP 10 0 rfl rfl (h1) d_Dc_misses_49 ?_
      refine lv_iload_n hx hb d_Dc_misses_50 rfl (lv_at hl 3 rfl) ?_
      refine lv_icmp_ne (tgt := 58) hx hb d_Dc_misses_51 (by decide) (fun c51 => ?_) (fun c51 => ?_)
      · refine lv_iload_n hx hb d_Dc_misses_58 rfl (lv_at hl 0 rfl) ?_
        refine lv_aload_n hx hb d_Dc_misses_59 rfl (lv_at hl 2 rfl) ?_
        refine va_get (D := gD G) (ci := 2) (v := .int ((cI σ 9) + 1)) (C := R_Dc) (T := F_Dc) (N := 4) hx hb (wl_Dc hT) (fun _ h9 => h9) hown hK hP 9 rfl rfl 3 (by decide) (k_90 hT) (fun _ h9 => h9) rfl d_Dc_misses_60 ?_
        refine va_iast (f := (cJ σ 4)) hx hb hK hP hD hS 11 0 rfl rfl (h2) d_Dc_misses_63 (fun H locs hP hD hS => ?_)
        have hP : va_P (gD G) classes (cw G (sJ (sI σ 9 ((cI σ 9) + 1)) 4 (upd (cJ σ 4) (((x - x / 2 * 2) * 2) + 1).toNatClampNeg ((cI σ 9) + 1)))) H := hP
        have hD : va_D (gA G) (cw G (sJ (sI σ 9 ((cI σ 9) + 1)) 4 (upd (cJ σ 4) (((x - x / 2 * 2) * 2) + 1).toNatClampNeg ((cI σ 9) + 1)))) := g.d
        refine lv_iconst (v := 0) hx hb d_Dc_misses_64 (by decide) ?_
        exact end_z (u := (sJ (sI σ 9 ((cI σ 9) + 1)) 4 (upd (cJ σ 4) (((x - x / 2 * 2) * 2) + 1).toNatClampNeg ((cI σ 9) + 1)))) hx hb hr hlocks hS hP d_Dc_misses_65 rfl (⟨by first | (simp [dmF, b2i, cI_sI, cJ_sI, cF_sI, cP_sI, cQ_sI, cI_sJ, cJ_sJ, cF_sJ, cP_sJ, cQ_sJ, cI_sF, cJ_sF, cF_sF, cP_sF, cQ_sF, cI_sP, cJ_sP, cF_sP, cP_sP, cQ_sP, ix, m4, c27, c37, c51]; done) | (revert c27 c37 c51; simp [dmF, b2i, cI_sI, cJ_sI, cF_sI, cP_sI, cQ_sI, cI_sJ, cJ_sJ, cF_sJ, cP_sJ, cQ_sJ, cI_sF, cJ_sF, cF_sF, cP_sF, cQ_sF, cI_sP, cJ_sP, cF_sP, cP_sP, cQ_sP, ix, m4]), by first | (simp [dmF, b2i, cI_sI, cJ_sI, cF_sI, cP_sI, cQ_sI, cI_sJ, cJ_sJ, cF_sJ, cP_sJ, cQ_sJ, cI_sF, cJ_sF, cF_sF, cP_sF, cQ_sF, cI_sP, cJ_sP, cF_sP, cP_sP, cQ_sP, ix, m4, c27, c37, c51]; done) | (revert c27 c37 c51; simp [dmF, b2i, cI_sI, cJ_sI, cF_sI, cP_sI, cQ_sI, cI_sJ, cJ_sJ, cF_sJ, cP_sJ, cQ_sJ, cI_sF, cJ_sF, cF_sF, cP_sF, cQ_sF, cI_sP, cJ_sP, cF_sP, cP_sP, cQ_sP, ix, m4])⟩)
      · exact absurd c51 c27

set_option maxHeartbeats 4000000 in
set_option maxRecDepth 100000 in
theorem K_Pr_guessesWrong {l : Launch} {G : GT} (g : GOK l G) (σ : CS) (x : Int32) (j : Bool) (h : vp_in (x - x / 8 * 8) 8) : cx_M l y_Pr_guessesWrong (.code y_Pr_guessesWrong b_Pr_guessesWrong 5 (some .boolean)) 1 21 (gA G) [.ref (gad G 12), .int x, .int (b2i j)] (Cw G σ) (Ri G (fun r u => r = b2i (gwW σ x j) ∧ u = gwF σ x j)) (Tn) := by
  refine cx_of (by decide +kernel) ?_
  intro p e s m below meth c s₁ B hml ht hc
  have hx := B.exec
  have hb := B.bytes
  have hr := B.returns
  have hown : s.vm.findClass R_Pr = some m.cls := findClass_of_methodNamed B.named
  have hlocks := B.notSynchronized
  have hT := g.tb hc
  have hK := g.k hc
  have hD := g.d (σ := σ)
  have hS : va_S (gA G) s.heap s.heap [] := va_S.rf
  have hP := hc.2.2
  have hl := lv_entry ([.ref (gad G 12), .int x, .int (b2i j)]) (n := 5) (Nat.le_of_ble_eq_true rfl)
  rw [lg_entry_eq]
  generalize (lg_sl ([.ref (gad G 12), .int x, .int (b2i j)]) ++ List.replicate (5 - (lg_sl ([.ref (gad G 12), .int x, .int (b2i j)])).length) Slot.unset).toArray = ls at hl ⊢
  have hl : lv_has ls 5 [(0, .ref (gad G 12)), (1, .int x), (2, .int (b2i j))] := hl
  refine lv_iload_n hx hb d_Pr_guessesWrong_0 rfl (lv_at hl 1 rfl) ?_
  refine lv_bipush (v := 8) hx hb d_Pr_guessesWrong_1 (by decide) ?_
  refine lv_irem hx hb d_Pr_guessesWrong_3 (by decide) ?_
  refine lv_istore_n (lv' := [(3, .int (x - x / 8 * 8)), (0, .ref (gad G 12)), (1, .int x), (2, .int (b2i j))]) hx hb d_Pr_guessesWrong_4 rfl hl (by decide) rfl (fun ls hl => ?_)
  refine lv_aload_n hx hb d_Pr_guessesWrong_5 rfl (lv_at hl 1 rfl) ?_
  refine va_get (D := gD G) (ci := 4) (v := .ref (gad G 13)) (C := R_Pr) (T := F_Pr) (N := 2) hx hb (wl_Pr hT) (fun _ h9 => h9) hown hK hP 12 rfl rfl 1 (by decide) (k_113 hT) (fun _ h9 => h9) rfl d_Pr_guessesWrong_6 ?_
  refine lv_iload_n hx hb d_Pr_guessesWrong_9 rfl (lv_at hl 0 rfl) ?_
  refine va_iald (f := (cJ σ 5)) hx hb hK hP 13 0 rfl rfl (h) d_Pr_guessesWrong_10 ?_
  refine lv_iconst (v := 2) hx hb d_Pr_guessesWrong_11 (by decide) ?_
  refine lv_icmp_lt (tgt := 19) hx hb d_Pr_guessesWrong_12 (by decide) (fun c12 => ?_) (fun c12 => ?_)
  · refine lv_iconst (v := 0) hx hb d_Pr_guessesWrong_19 (by decide) ?_
    refine lv_iload_n hx hb d_Pr_guessesWrong_20 rfl (lv_at hl 3 rfl) ?_
    refine lv_icmp_eq (tgt := 28) hx hb d_Pr_guessesWrong_21 (by decide) (fun c21 => ?_) (fun c21 => ?_)
    · refine lv_iconst (v := 0) hx hb d_Pr_guessesWrong_28 (by decide) ?_
      refine lv_istore (lv' := [(4, .int 0), (3, .int (x - x / 8 * 8)), (0, .ref (gad G 12)), (1, .int x), (2, .int (b2i j))]) hx hb d_Pr_guessesWrong_29 hl (by decide) rfl (fun ls hl => ?_)
      refine lv_aload_n hx hb d_Pr_guessesWrong_31 rfl (lv_at hl 2 rfl) ?_
      refine va_get (D := gD G) (ci := 4) (v := .ref (gad G 13)) (C := R_Pr) (T := F_Pr) (N := 2) hx hb (wl_Pr hT) (fun _ h9 => h9) hown hK hP 12 rfl rfl 1 (by decide) (k_113 hT) (fun _ h9 => h9) rfl d_Pr_guessesWrong_32 ?_
      refine lv_iload_n hx hb d_Pr_guessesWrong_35 rfl (lv_at hl 1 rfl) ?_
      refine lv_iload_n hx hb d_Pr_guessesWrong_36 rfl (lv_at hl 4 rfl) ?_
      refine lv_if_eq (tgt := 55) hx hb d_Pr_guessesWrong_37 (by decide) (fun c37 => ?_) (fun c37 => ?_)
      · have c37 := b2i0 c37
        refine lv_aload_n hx hb d_Pr_guessesWrong_55 rfl (lv_at hl 2 rfl) ?_
        refine va_get (D := gD G) (ci := 4) (v := .ref (gad G 13)) (C := R_Pr) (T := F_Pr) (N := 2) hx hb (wl_Pr hT) (fun _ h9 => h9) hown hK hP 12 rfl rfl 1 (by decide) (k_113 hT) (fun _ h9 => h9) rfl d_Pr_guessesWrong_56 ?_
        refine lv_iload_n hx hb d_Pr_guessesWrong_59 rfl (lv_at hl 1 rfl) ?_
        refine va_iald (f := (cJ σ 5)) hx hb hK hP 13 0 rfl rfl (h) d_Pr_guessesWrong_60 ?_
        refine lv_iconst (v := 1) hx hb d_Pr_guessesWrong_61 (by decide) ?_
        refine lv_isub hx hb d_Pr_guessesWrong_62 ?_
        refine lv_iconst (v := 0) hx hb d_Pr_guessesWrong_63 (by decide) ?_
        refine va_mmax hx hb (by rw [hml]; exact hl.1.symm) hown (k_478 hT) (k_276 hT) (k_16 hT) (k_277 hT) (by decide) (Nat.le_of_ble_eq_true rfl) (by decide) (by decide) d_Pr_guessesWrong_64 ?_
        refine va_iast (f := (cJ σ 5)) hx hb hK hP hD hS 13 0 rfl rfl (h) d_Pr_guessesWrong_67 (fun H locs hP hD hS => ?_)
        have hP : va_P (gD G) classes (cw G (sJ σ 5 (upd (cJ σ 5) (x - x / 8 * 8).toNatClampNeg (imax (((cJ σ 5) (x - x / 8 * 8).toNatClampNeg) - 1) 0)))) H := hP
        have hD : va_D (gA G) (cw G (sJ σ 5 (upd (cJ σ 5) (x - x / 8 * 8).toNatClampNeg (imax (((cJ σ 5) (x - x / 8 * 8).toNatClampNeg) - 1) 0)))) := g.d
        refine lv_iload hx hb d_Pr_guessesWrong_68 (lv_at hl 0 rfl) ?_
        refine lv_if_eq (tgt := 83) hx hb d_Pr_guessesWrong_70 (by decide) (fun c70 => ?_) (fun c70 => ?_)
        · refine lv_iload hx hb d_Pr_guessesWrong_83 (lv_at hl 0 rfl) ?_
          exact end_z (u := (sJ σ 5 (upd (cJ σ 5) (x - x / 8 * 8).toNatClampNeg (imax (((cJ σ 5) (x - x / 8 * 8).toNatClampNeg) - 1) 0)))) hx hb hr hlocks hS hP d_Pr_guessesWrong_85 rfl (⟨by revert c12 c21 c37; cases j <;> first | (simp +contextual [gwW, b2i, ix]; done) | (simp +contextual [gwW, b2i, ix]; intro h8 h9; exact absurd h9 (Int32.not_lt.mpr h8)), by revert c12 c21 c37; cases j <;> first | (simp +contextual [gwF, gwW, b2i, ix]; done) | (simp +contextual [gwF, gwW, b2i, ix]; intro h8 h9; exact absurd h9 (Int32.not_lt.mpr h8))⟩)
        · exact absurd rfl c70
      · have c37 := b2i1 c37
        refine lv_aload_n hx hb d_Pr_guessesWrong_40 rfl (lv_at hl 2 rfl) ?_
        refine va_get (D := gD G) (ci := 4) (v := .ref (gad G 13)) (C := R_Pr) (T := F_Pr) (N := 2) hx hb (wl_Pr hT) (fun _ h9 => h9) hown hK hP 12 rfl rfl 1 (by decide) (k_113 hT) (fun _ h9 => h9) rfl d_Pr_guessesWrong_41 ?_
        refine lv_iload_n hx hb d_Pr_guessesWrong_44 rfl (lv_at hl 1 rfl) ?_
        refine va_iald (f := (cJ σ 5)) hx hb hK hP 13 0 rfl rfl (h) d_Pr_guessesWrong_45 ?_
        refine lv_iconst (v := 1) hx hb d_Pr_guessesWrong_46 (by decide) ?_
        refine lv_iadd hx hb d_Pr_guessesWrong_47 ?_
        refine lv_iconst (v := 3) hx hb d_Pr_guessesWrong_48 (by decide) ?_
        refine va_mmin hx hb (by rw [hml]; exact hl.1.symm) hown (k_475 hT) (k_476 hT) (k_16 hT) (k_477 hT) (by decide) (Nat.le_of_ble_eq_true rfl) (by decide) (by decide) d_Pr_guessesWrong_49 ?_
        refine lv_goto (tgt := 67) hx hb d_Pr_guessesWrong_52 (by decide) ?_
        refine va_iast (f := (cJ σ 5)) hx hb hK hP hD hS 13 0 rfl rfl (h) d_Pr_guessesWrong_67 (fun H locs hP hD hS => ?_)
        have hP : va_P (gD G) classes (cw G (sJ σ 5 (upd (cJ σ 5) (x - x / 8 * 8).toNatClampNeg (imin (((cJ σ 5) (x - x / 8 * 8).toNatClampNeg) + 1) 3)))) H := hP
        have hD : va_D (gA G) (cw G (sJ σ 5 (upd (cJ σ 5) (x - x / 8 * 8).toNatClampNeg (imin (((cJ σ 5) (x - x / 8 * 8).toNatClampNeg) + 1) 3)))) := g.d
        refine lv_iload hx hb d_Pr_guessesWrong_68 (lv_at hl 0 rfl) ?_
        refine lv_if_eq (tgt := 83) hx hb d_Pr_guessesWrong_70 (by decide) (fun c70 => ?_) (fun c70 => ?_)
        · refine lv_iload hx hb d_Pr_guessesWrong_83 (lv_at hl 0 rfl) ?_
          exact end_z (u := (sJ σ 5 (upd (cJ σ 5) (x - x / 8 * 8).toNatClampNeg (imin (((cJ σ 5) (x - x / 8 * 8).toNatClampNeg) + 1) 3)))) hx hb hr hlocks hS hP d_Pr_guessesWrong_85 rfl (⟨by revert c12 c21 c37; cases j <;> first | (simp +contextual [gwW, b2i, ix]; done) | (simp +contextual [gwW, b2i, ix]; intro h8 h9; exact absurd h9 (Int32.not_lt.mpr h8)), by revert c12 c21 c37; cases j <;> first | (simp +contextual [gwF, gwW, b2i, ix]; done) | (simp +contextual [gwF, gwW, b2i, ix]; intro h8 h9; exact absurd h9 (Int32.not_lt.mpr h8))⟩)
        · exact absurd rfl c70
    · refine lv_iconst (v := 1) hx hb d_Pr_guessesWrong_24 (by decide) ?_
      refine lv_goto (tgt := 29) hx hb d_Pr_guessesWrong_25 (by decide) ?_
      refine lv_istore (lv' := [(4, .int 1), (3, .int (x - x / 8 * 8)), (0, .ref (gad G 12)), (1, .int x), (2, .int (b2i j))]) hx hb d_Pr_guessesWrong_29 hl (by decide) rfl (fun ls hl => ?_)
      refine lv_aload_n hx hb d_Pr_guessesWrong_31 rfl (lv_at hl 2 rfl) ?_
      refine va_get (D := gD G) (ci := 4) (v := .ref (gad G 13)) (C := R_Pr) (T := F_Pr) (N := 2) hx hb (wl_Pr hT) (fun _ h9 => h9) hown hK hP 12 rfl rfl 1 (by decide) (k_113 hT) (fun _ h9 => h9) rfl d_Pr_guessesWrong_32 ?_
      refine lv_iload_n hx hb d_Pr_guessesWrong_35 rfl (lv_at hl 1 rfl) ?_
      refine lv_iload_n hx hb d_Pr_guessesWrong_36 rfl (lv_at hl 4 rfl) ?_
      refine lv_if_eq (tgt := 55) hx hb d_Pr_guessesWrong_37 (by decide) (fun c37 => ?_) (fun c37 => ?_)
      · have c37 := b2i0 c37
        refine lv_aload_n hx hb d_Pr_guessesWrong_55 rfl (lv_at hl 2 rfl) ?_
        refine va_get (D := gD G) (ci := 4) (v := .ref (gad G 13)) (C := R_Pr) (T := F_Pr) (N := 2) hx hb (wl_Pr hT) (fun _ h9 => h9) hown hK hP 12 rfl rfl 1 (by decide) (k_113 hT) (fun _ h9 => h9) rfl d_Pr_guessesWrong_56 ?_
        refine lv_iload_n hx hb d_Pr_guessesWrong_59 rfl (lv_at hl 1 rfl) ?_
        refine va_iald (f := (cJ σ 5)) hx hb hK hP 13 0 rfl rfl (h) d_Pr_guessesWrong_60 ?_
        refine lv_iconst (v := 1) hx hb d_Pr_guessesWrong_61 (by decide) ?_
        refine lv_isub hx hb d_Pr_guessesWrong_62 ?_
        refine lv_iconst (v := 0) hx hb d_Pr_guessesWrong_63 (by decide) ?_
        refine va_mmax hx hb (by rw [hml]; exact hl.1.symm) hown (k_478 hT) (k_276 hT) (k_16 hT) (k_277 hT) (by decide) (Nat.le_of_ble_eq_true rfl) (by decide) (by decide) d_Pr_guessesWrong_64 ?_
        refine va_iast (f := (cJ σ 5)) hx hb hK hP hD hS 13 0 rfl rfl (h) d_Pr_guessesWrong_67 (fun H locs hP hD hS => ?_)
        have hP : va_P (gD G) classes (cw G (sJ σ 5 (upd (cJ σ 5) (x - x / 8 * 8).toNatClampNeg (imax (((cJ σ 5) (x - x / 8 * 8).toNatClampNeg) - 1) 0)))) H := hP
        have hD : va_D (gA G) (cw G (sJ σ 5 (upd (cJ σ 5) (x - x / 8 * 8).toNatClampNeg (imax (((cJ σ 5) (x - x / 8 * 8).toNatClampNeg) - 1) 0)))) := g.d
        refine lv_iload hx hb d_Pr_guessesWrong_68 (lv_at hl 0 rfl) ?_
        refine lv_if_eq (tgt := 83) hx hb d_Pr_guessesWrong_70 (by decide) (fun c70 => ?_) (fun c70 => ?_)
        · exact absurd c70 (by decide)
        · refine lv_aload_n hx hb d_Pr_guessesWrong_73 rfl (lv_at hl 2 rfl) ?_
          refine lv_dup hx hb d_Pr_guessesWrong_74 rfl ?_
          refine va_get (D := gD G) (ci := 4) (v := .int (cI σ 10)) (C := R_Pr) (T := F_Pr) (N := 2) hx hb (wl_Pr hT) (fun _ h9 => h9) hown hK hP 12 rfl rfl 0 (by decide) (k_111 hT) (fun _ h9 => h9) rfl d_Pr_guessesWrong_75 ?_
          refine lv_iconst (v := 1) hx hb d_Pr_guessesWrong_78 (by decide) ?_
          refine lv_iadd hx hb d_Pr_guessesWrong_79 ?_
          refine va_put (D := gD G) (ci := 4) (v := .int ((cI σ 10) + 1)) (ty := .int) (C := R_Pr) (T := F_Pr) (N := 2) hx hb (wl_Pr hT) (fun _ h9 => h9) fy_Pr fy_Pr_ok fn_Pr hown hK hP hD hS 12 rfl rfl 0 (by decide) (k_111 hT) (fun _ h9 => h9) rfl (by decide +kernel) rfl rfl (Nat.le_of_ble_eq_true rfl) d_Pr_guessesWrong_80 (fun H locs hP hD hS => ?_)
          have hP : va_P (gD G) classes (cw G (sI (sJ σ 5 (upd (cJ σ 5) (x - x / 8 * 8).toNatClampNeg (imax (((cJ σ 5) (x - x / 8 * 8).toNatClampNeg) - 1) 0))) 10 ((cI σ 10) + 1))) H := hP
          have hD : va_D (gA G) (cw G (sI (sJ σ 5 (upd (cJ σ 5) (x - x / 8 * 8).toNatClampNeg (imax (((cJ σ 5) (x - x / 8 * 8).toNatClampNeg) - 1) 0))) 10 ((cI σ 10) + 1))) := g.d
          refine lv_iload hx hb d_Pr_guessesWrong_83 (lv_at hl 0 rfl) ?_
          exact end_z (u := (sI (sJ σ 5 (upd (cJ σ 5) (x - x / 8 * 8).toNatClampNeg (imax (((cJ σ 5) (x - x / 8 * 8).toNatClampNeg) - 1) 0))) 10 ((cI σ 10) + 1))) hx hb hr hlocks hS hP d_Pr_guessesWrong_85 rfl (⟨by revert c12 c21 c37; cases j <;> first | (simp +contextual [gwW, b2i, ix]; done) | (simp +contextual [gwW, b2i, ix]; intro h8 h9; exact absurd h9 (Int32.not_lt.mpr h8)), by revert c12 c21 c37; cases j <;> first | (simp +contextual [gwF, gwW, b2i, ix]; done) | (simp +contextual [gwF, gwW, b2i, ix]; intro h8 h9; exact absurd h9 (Int32.not_lt.mpr h8))⟩)
      · have c37 := b2i1 c37
        refine lv_aload_n hx hb d_Pr_guessesWrong_40 rfl (lv_at hl 2 rfl) ?_
        refine va_get (D := gD G) (ci := 4) (v := .ref (gad G 13)) (C := R_Pr) (T := F_Pr) (N := 2) hx hb (wl_Pr hT) (fun _ h9 => h9) hown hK hP 12 rfl rfl 1 (by decide) (k_113 hT) (fun _ h9 => h9) rfl d_Pr_guessesWrong_41 ?_
        refine lv_iload_n hx hb d_Pr_guessesWrong_44 rfl (lv_at hl 1 rfl) ?_
        refine va_iald (f := (cJ σ 5)) hx hb hK hP 13 0 rfl rfl (h) d_Pr_guessesWrong_45 ?_
        refine lv_iconst (v := 1) hx hb d_Pr_guessesWrong_46 (by decide) ?_
        refine lv_iadd hx hb d_Pr_guessesWrong_47 ?_
        refine lv_iconst (v := 3) hx hb d_Pr_guessesWrong_48 (by decide) ?_
        refine va_mmin hx hb (by rw [hml]; exact hl.1.symm) hown (k_475 hT) (k_476 hT) (k_16 hT) (k_477 hT) (by decide) (Nat.le_of_ble_eq_true rfl) (by decide) (by decide) d_Pr_guessesWrong_49 ?_
        refine lv_goto (tgt := 67) hx hb d_Pr_guessesWrong_52 (by decide) ?_
        refine va_iast (f := (cJ σ 5)) hx hb hK hP hD hS 13 0 rfl rfl (h) d_Pr_guessesWrong_67 (fun H locs hP hD hS => ?_)
        have hP : va_P (gD G) classes (cw G (sJ σ 5 (upd (cJ σ 5) (x - x / 8 * 8).toNatClampNeg (imin (((cJ σ 5) (x - x / 8 * 8).toNatClampNeg) + 1) 3)))) H := hP
        have hD : va_D (gA G) (cw G (sJ σ 5 (upd (cJ σ 5) (x - x / 8 * 8).toNatClampNeg (imin (((cJ σ 5) (x - x / 8 * 8).toNatClampNeg) + 1) 3)))) := g.d
        refine lv_iload hx hb d_Pr_guessesWrong_68 (lv_at hl 0 rfl) ?_
        refine lv_if_eq (tgt := 83) hx hb d_Pr_guessesWrong_70 (by decide) (fun c70 => ?_) (fun c70 => ?_)
        · exact absurd c70 (by decide)
        · refine lv_aload_n hx hb d_Pr_guessesWrong_73 rfl (lv_at hl 2 rfl) ?_
          refine lv_dup hx hb d_Pr_guessesWrong_74 rfl ?_
          refine va_get (D := gD G) (ci := 4) (v := .int (cI σ 10)) (C := R_Pr) (T := F_Pr) (N := 2) hx hb (wl_Pr hT) (fun _ h9 => h9) hown hK hP 12 rfl rfl 0 (by decide) (k_111 hT) (fun _ h9 => h9) rfl d_Pr_guessesWrong_75 ?_
          refine lv_iconst (v := 1) hx hb d_Pr_guessesWrong_78 (by decide) ?_
          refine lv_iadd hx hb d_Pr_guessesWrong_79 ?_
          refine va_put (D := gD G) (ci := 4) (v := .int ((cI σ 10) + 1)) (ty := .int) (C := R_Pr) (T := F_Pr) (N := 2) hx hb (wl_Pr hT) (fun _ h9 => h9) fy_Pr fy_Pr_ok fn_Pr hown hK hP hD hS 12 rfl rfl 0 (by decide) (k_111 hT) (fun _ h9 => h9) rfl (by decide +kernel) rfl rfl (Nat.le_of_ble_eq_true rfl) d_Pr_guessesWrong_80 (fun H locs hP hD hS => ?_)
          have hP : va_P (gD G) classes (cw G (sI (sJ σ 5 (upd (cJ σ 5) (x - x / 8 * 8).toNatClampNeg (imin (((cJ σ 5) (x - x / 8 * 8).toNatClampNeg) + 1) 3))) 10 ((cI σ 10) + 1))) H := hP
          have hD : va_D (gA G) (cw G (sI (sJ σ 5 (upd (cJ σ 5) (x - x / 8 * 8).toNatClampNeg (imin (((cJ σ 5) (x - x / 8 * 8).toNatClampNeg) + 1) 3))) 10 ((cI σ 10) + 1))) := g.d
          refine lv_iload hx hb d_Pr_guessesWrong_83 (lv_at hl 0 rfl) ?_
          exact end_z (u := (sI (sJ σ 5 (upd (cJ σ 5) (x - x / 8 * 8).toNatClampNeg (imin (((cJ σ 5) (x - x / 8 * 8).toNatClampNeg) + 1) 3))) 10 ((cI σ 10) + 1))) hx hb hr hlocks hS hP d_Pr_guessesWrong_85 rfl (⟨by revert c12 c21 c37; cases j <;> first | (simp +contextual [gwW, b2i, ix]; done) | (simp +contextual [gwW, b2i, ix]; intro h8 h9; exact absurd h9 (Int32.not_lt.mpr h8)), by revert c12 c21 c37; cases j <;> first | (simp +contextual [gwF, gwW, b2i, ix]; done) | (simp +contextual [gwF, gwW, b2i, ix]; intro h8 h9; exact absurd h9 (Int32.not_lt.mpr h8))⟩)
  · refine lv_iconst (v := 1) hx hb d_Pr_guessesWrong_15 (by decide) ?_
    refine lv_goto (tgt := 20) hx hb d_Pr_guessesWrong_16 (by decide) ?_
    refine lv_iload_n hx hb d_Pr_guessesWrong_20 rfl (lv_at hl 3 rfl) ?_
    refine lv_icmp_eq (tgt := 28) hx hb d_Pr_guessesWrong_21 (by decide) (fun c21 => ?_) (fun c21 => ?_)
    · refine lv_iconst (v := 0) hx hb d_Pr_guessesWrong_28 (by decide) ?_
      refine lv_istore (lv' := [(4, .int 0), (3, .int (x - x / 8 * 8)), (0, .ref (gad G 12)), (1, .int x), (2, .int (b2i j))]) hx hb d_Pr_guessesWrong_29 hl (by decide) rfl (fun ls hl => ?_)
      refine lv_aload_n hx hb d_Pr_guessesWrong_31 rfl (lv_at hl 2 rfl) ?_
      refine va_get (D := gD G) (ci := 4) (v := .ref (gad G 13)) (C := R_Pr) (T := F_Pr) (N := 2) hx hb (wl_Pr hT) (fun _ h9 => h9) hown hK hP 12 rfl rfl 1 (by decide) (k_113 hT) (fun _ h9 => h9) rfl d_Pr_guessesWrong_32 ?_
      refine lv_iload_n hx hb d_Pr_guessesWrong_35 rfl (lv_at hl 1 rfl) ?_
      refine lv_iload_n hx hb d_Pr_guessesWrong_36 rfl (lv_at hl 4 rfl) ?_
      refine lv_if_eq (tgt := 55) hx hb d_Pr_guessesWrong_37 (by decide) (fun c37 => ?_) (fun c37 => ?_)
      · have c37 := b2i0 c37
        refine lv_aload_n hx hb d_Pr_guessesWrong_55 rfl (lv_at hl 2 rfl) ?_
        refine va_get (D := gD G) (ci := 4) (v := .ref (gad G 13)) (C := R_Pr) (T := F_Pr) (N := 2) hx hb (wl_Pr hT) (fun _ h9 => h9) hown hK hP 12 rfl rfl 1 (by decide) (k_113 hT) (fun _ h9 => h9) rfl d_Pr_guessesWrong_56 ?_
        refine lv_iload_n hx hb d_Pr_guessesWrong_59 rfl (lv_at hl 1 rfl) ?_
        refine va_iald (f := (cJ σ 5)) hx hb hK hP 13 0 rfl rfl (h) d_Pr_guessesWrong_60 ?_
        refine lv_iconst (v := 1) hx hb d_Pr_guessesWrong_61 (by decide) ?_
        refine lv_isub hx hb d_Pr_guessesWrong_62 ?_
        refine lv_iconst (v := 0) hx hb d_Pr_guessesWrong_63 (by decide) ?_
        refine va_mmax hx hb (by rw [hml]; exact hl.1.symm) hown (k_478 hT) (k_276 hT) (k_16 hT) (k_277 hT) (by decide) (Nat.le_of_ble_eq_true rfl) (by decide) (by decide) d_Pr_guessesWrong_64 ?_
        refine va_iast (f := (cJ σ 5)) hx hb hK hP hD hS 13 0 rfl rfl (h) d_Pr_guessesWrong_67 (fun H locs hP hD hS => ?_)
        have hP : va_P (gD G) classes (cw G (sJ σ 5 (upd (cJ σ 5) (x - x / 8 * 8).toNatClampNeg (imax (((cJ σ 5) (x - x / 8 * 8).toNatClampNeg) - 1) 0)))) H := hP
        have hD : va_D (gA G) (cw G (sJ σ 5 (upd (cJ σ 5) (x - x / 8 * 8).toNatClampNeg (imax (((cJ σ 5) (x - x / 8 * 8).toNatClampNeg) - 1) 0)))) := g.d
        refine lv_iload hx hb d_Pr_guessesWrong_68 (lv_at hl 0 rfl) ?_
        refine lv_if_eq (tgt := 83) hx hb d_Pr_guessesWrong_70 (by decide) (fun c70 => ?_) (fun c70 => ?_)
        · refine lv_iload hx hb d_Pr_guessesWrong_83 (lv_at hl 0 rfl) ?_
          exact end_z (u := (sJ σ 5 (upd (cJ σ 5) (x - x / 8 * 8).toNatClampNeg (imax (((cJ σ 5) (x - x / 8 * 8).toNatClampNeg) - 1) 0)))) hx hb hr hlocks hS hP d_Pr_guessesWrong_85 rfl (⟨by revert c12 c21 c37; cases j <;> first | (simp +contextual [gwW, b2i, ix]; done) | (simp +contextual [gwW, b2i, ix]; intro h8 h9; exact absurd h9 (Int32.not_lt.mpr h8)), by revert c12 c21 c37; cases j <;> first | (simp +contextual [gwF, gwW, b2i, ix]; done) | (simp +contextual [gwF, gwW, b2i, ix]; intro h8 h9; exact absurd h9 (Int32.not_lt.mpr h8))⟩)
        · exact absurd rfl c70
      · have c37 := b2i1 c37
        refine lv_aload_n hx hb d_Pr_guessesWrong_40 rfl (lv_at hl 2 rfl) ?_
        refine va_get (D := gD G) (ci := 4) (v := .ref (gad G 13)) (C := R_Pr) (T := F_Pr) (N := 2) hx hb (wl_Pr hT) (fun _ h9 => h9) hown hK hP 12 rfl rfl 1 (by decide) (k_113 hT) (fun _ h9 => h9) rfl d_Pr_guessesWrong_41 ?_
        refine lv_iload_n hx hb d_Pr_guessesWrong_44 rfl (lv_at hl 1 rfl) ?_
        refine va_iald (f := (cJ σ 5)) hx hb hK hP 13 0 rfl rfl (h) d_Pr_guessesWrong_45 ?_
        refine lv_iconst (v := 1) hx hb d_Pr_guessesWrong_46 (by decide) ?_
        refine lv_iadd hx hb d_Pr_guessesWrong_47 ?_
        refine lv_iconst (v := 3) hx hb d_Pr_guessesWrong_48 (by decide) ?_
        refine va_mmin hx hb (by rw [hml]; exact hl.1.symm) hown (k_475 hT) (k_476 hT) (k_16 hT) (k_477 hT) (by decide) (Nat.le_of_ble_eq_true rfl) (by decide) (by decide) d_Pr_guessesWrong_49 ?_
        refine lv_goto (tgt := 67) hx hb d_Pr_guessesWrong_52 (by decide) ?_
        refine va_iast (f := (cJ σ 5)) hx hb hK hP hD hS 13 0 rfl rfl (h) d_Pr_guessesWrong_67 (fun H locs hP hD hS => ?_)
        have hP : va_P (gD G) classes (cw G (sJ σ 5 (upd (cJ σ 5) (x - x / 8 * 8).toNatClampNeg (imin (((cJ σ 5) (x - x / 8 * 8).toNatClampNeg) + 1) 3)))) H := hP
        have hD : va_D (gA G) (cw G (sJ σ 5 (upd (cJ σ 5) (x - x / 8 * 8).toNatClampNeg (imin (((cJ σ 5) (x - x / 8 * 8).toNatClampNeg) + 1) 3)))) := g.d
        refine lv_iload hx hb d_Pr_guessesWrong_68 (lv_at hl 0 rfl) ?_
        refine lv_if_eq (tgt := 83) hx hb d_Pr_guessesWrong_70 (by decide) (fun c70 => ?_) (fun c70 => ?_)
        · refine lv_iload hx hb d_Pr_guessesWrong_83 (lv_at hl 0 rfl) ?_
          exact end_z (u := (sJ σ 5 (upd (cJ σ 5) (x - x / 8 * 8).toNatClampNeg (imin (((cJ σ 5) (x - x / 8 * 8).toNatClampNeg) + 1) 3)))) hx hb hr hlocks hS hP d_Pr_guessesWrong_85 rfl (⟨by revert c12 c21 c37; cases j <;> first | (simp +contextual [gwW, b2i, ix]; done) | (simp +contextual [gwW, b2i, ix]; intro h8 h9; exact absurd h9 (Int32.not_lt.mpr h8)), by revert c12 c21 c37; cases j <;> first | (simp +contextual [gwF, gwW, b2i, ix]; done) | (simp +contextual [gwF, gwW, b2i, ix]; intro h8 h9; exact absurd h9 (Int32.not_lt.mpr h8))⟩)
        · exact absurd rfl c70
    · refine lv_iconst (v := 1) hx hb d_Pr_guessesWrong_24 (by decide) ?_
      refine lv_goto (tgt := 29) hx hb d_Pr_guessesWrong_25 (by decide) ?_
      refine lv_istore (lv' := [(4, .int 1), (3, .int (x - x / 8 * 8)), (0, .ref (gad G 12)), (1, .int x), (2, .int (b2i j))]) hx hb d_Pr_guessesWrong_29 hl (by decide) rfl (fun ls hl => ?_)
      refine lv_aload_n hx hb d_Pr_guessesWrong_31 rfl (lv_at hl 2 rfl) ?_
      refine va_get (D := gD G) (ci := 4) (v := .ref (gad G 13)) (C := R_Pr) (T := F_Pr) (N := 2) hx hb (wl_Pr hT) (fun _ h9 => h9) hown hK hP 12 rfl rfl 1 (by decide) (k_113 hT) (fun _ h9 => h9) rfl d_Pr_guessesWrong_32 ?_
      refine lv_iload_n hx hb d_Pr_guessesWrong_35 rfl (lv_at hl 1 rfl) ?_
      refine lv_iload_n hx hb d_Pr_guessesWrong_36 rfl (lv_at hl 4 rfl) ?_
      refine lv_if_eq (tgt := 55) hx hb d_Pr_guessesWrong_37 (by decide) (fun c37 => ?_) (fun c37 => ?_)
      · have c37 := b2i0 c37
        refine lv_aload_n hx hb d_Pr_guessesWrong_55 rfl (lv_at hl 2 rfl) ?_
        refine va_get (D := gD G) (ci := 4) (v := .ref (gad G 13)) (C := R_Pr) (T := F_Pr) (N := 2) hx hb (wl_Pr hT) (fun _ h9 => h9) hown hK hP 12 rfl rfl 1 (by decide) (k_113 hT) (fun _ h9 => h9) rfl d_Pr_guessesWrong_56 ?_
        refine lv_iload_n hx hb d_Pr_guessesWrong_59 rfl (lv_at hl 1 rfl) ?_
        refine va_iald (f := (cJ σ 5)) hx hb hK hP 13 0 rfl rfl (h) d_Pr_guessesWrong_60 ?_
        refine lv_iconst (v := 1) hx hb d_Pr_guessesWrong_61 (by decide) ?_
        refine lv_isub hx hb d_Pr_guessesWrong_62 ?_
        refine lv_iconst (v := 0) hx hb d_Pr_guessesWrong_63 (by decide) ?_
        refine va_mmax hx hb (by rw [hml]; exact hl.1.symm) hown (k_478 hT) (k_276 hT) (k_16 hT) (k_277 hT) (by decide) (Nat.le_of_ble_eq_true rfl) (by decide) (by decide) d_Pr_guessesWrong_64 ?_
        refine va_iast (f := (cJ σ 5)) hx hb hK hP hD hS 13 0 rfl rfl (h) d_Pr_guessesWrong_67 (fun H locs hP hD hS => ?_)
        have hP : va_P (gD G) classes (cw G (sJ σ 5 (upd (cJ σ 5) (x - x / 8 * 8).toNatClampNeg (imax (((cJ σ 5) (x - x / 8 * 8).toNatClampNeg) - 1) 0)))) H := hP
        have hD : va_D (gA G) (cw G (sJ σ 5 (upd (cJ σ 5) (x - x / 8 * 8).toNatClampNeg (imax (((cJ σ 5) (x - x / 8 * 8).toNatClampNeg) - 1) 0)))) := g.d
        refine lv_iload hx hb d_Pr_guessesWrong_68 (lv_at hl 0 rfl) ?_
        refine lv_if_eq (tgt := 83) hx hb d_Pr_guessesWrong_70 (by decide) (fun c70 => ?_) (fun c70 => ?_)
        · exact absurd c70 (by decide)
        · refine lv_aload_n hx hb d_Pr_guessesWrong_73 rfl (lv_at hl 2 rfl) ?_
          refine lv_dup hx hb d_Pr_guessesWrong_74 rfl ?_
          refine va_get (D := gD G) (ci := 4) (v := .int (cI σ 10)) (C := R_Pr) (T := F_Pr) (N := 2) hx hb (wl_Pr hT) (fun _ h9 => h9) hown hK hP 12 rfl rfl 0 (by decide) (k_111 hT) (fun _ h9 => h9) rfl d_Pr_guessesWrong_75 ?_
          refine lv_iconst (v := 1) hx hb d_Pr_guessesWrong_78 (by decide) ?_
          refine lv_iadd hx hb d_Pr_guessesWrong_79 ?_
          refine va_put (D := gD G) (ci := 4) (v := .int ((cI σ 10) + 1)) (ty := .int) (C := R_Pr) (T := F_Pr) (N := 2) hx hb (wl_Pr hT) (fun _ h9 => h9) fy_Pr fy_Pr_ok fn_Pr hown hK hP hD hS 12 rfl rfl 0 (by decide) (k_111 hT) (fun _ h9 => h9) rfl (by decide +kernel) rfl rfl (Nat.le_of_ble_eq_true rfl) d_Pr_guessesWrong_80 (fun H locs hP hD hS => ?_)
          have hP : va_P (gD G) classes (cw G (sI (sJ σ 5 (upd (cJ σ 5) (x - x / 8 * 8).toNatClampNeg (imax (((cJ σ 5) (x - x / 8 * 8).toNatClampNeg) - 1) 0))) 10 ((cI σ 10) + 1))) H := hP
          have hD : va_D (gA G) (cw G (sI (sJ σ 5 (upd (cJ σ 5) (x - x / 8 * 8).toNatClampNeg (imax (((cJ σ 5) (x - x / 8 * 8).toNatClampNeg) - 1) 0))) 10 ((cI σ 10) + 1))) := g.d
          refine lv_iload hx hb d_Pr_guessesWrong_83 (lv_at hl 0 rfl) ?_
          exact end_z (u := (sI (sJ σ 5 (upd (cJ σ 5) (x - x / 8 * 8).toNatClampNeg (imax (((cJ σ 5) (x - x / 8 * 8).toNatClampNeg) - 1) 0))) 10 ((cI σ 10) + 1))) hx hb hr hlocks hS hP d_Pr_guessesWrong_85 rfl (⟨by revert c12 c21 c37; cases j <;> first | (simp +contextual [gwW, b2i, ix]; done) | (simp +contextual [gwW, b2i, ix]; intro h8 h9; exact absurd h9 (Int32.not_lt.mpr h8)), by revert c12 c21 c37; cases j <;> first | (simp +contextual [gwF, gwW, b2i, ix]; done) | (simp +contextual [gwF, gwW, b2i, ix]; intro h8 h9; exact absurd h9 (Int32.not_lt.mpr h8))⟩)
      · have c37 := b2i1 c37
        refine lv_aload_n hx hb d_Pr_guessesWrong_40 rfl (lv_at hl 2 rfl) ?_
        refine va_get (D := gD G) (ci := 4) (v := .ref (gad G 13)) (C := R_Pr) (T := F_Pr) (N := 2) hx hb (wl_Pr hT) (fun _ h9 => h9) hown hK hP 12 rfl rfl 1 (by decide) (k_113 hT) (fun _ h9 => h9) rfl d_Pr_guessesWrong_41 ?_
        refine lv_iload_n hx hb d_Pr_guessesWrong_44 rfl (lv_at hl 1 rfl) ?_
        refine va_iald (f := (cJ σ 5)) hx hb hK hP 13 0 rfl rfl (h) d_Pr_guessesWrong_45 ?_
        refine lv_iconst (v := 1) hx hb d_Pr_guessesWrong_46 (by decide) ?_
        refine lv_iadd hx hb d_Pr_guessesWrong_47 ?_
        refine lv_iconst (v := 3) hx hb d_Pr_guessesWrong_48 (by decide) ?_
        refine va_mmin hx hb (by rw [hml]; exact hl.1.symm) hown (k_475 hT) (k_476 hT) (k_16 hT) (k_477 hT) (by decide) (Nat.le_of_ble_eq_true rfl) (by decide) (by decide) d_Pr_guessesWrong_49 ?_
        refine lv_goto (tgt := 67) hx hb d_Pr_guessesWrong_52 (by decide) ?_
        refine va_iast (f := (cJ σ 5)) hx hb hK hP hD hS 13 0 rfl rfl (h) d_Pr_guessesWrong_67 (fun H locs hP hD hS => ?_)
        have hP : va_P (gD G) classes (cw G (sJ σ 5 (upd (cJ σ 5) (x - x / 8 * 8).toNatClampNeg (imin (((cJ σ 5) (x - x / 8 * 8).toNatClampNeg) + 1) 3)))) H := hP
        have hD : va_D (gA G) (cw G (sJ σ 5 (upd (cJ σ 5) (x - x / 8 * 8).toNatClampNeg (imin (((cJ σ 5) (x - x / 8 * 8).toNatClampNeg) + 1) 3)))) := g.d
        refine lv_iload hx hb d_Pr_guessesWrong_68 (lv_at hl 0 rfl) ?_
        refine lv_if_eq (tgt := 83) hx hb d_Pr_guessesWrong_70 (by decide) (fun c70 => ?_) (fun c70 => ?_)
        · exact absurd c70 (by decide)
        · refine lv_aload_n hx hb d_Pr_guessesWrong_73 rfl (lv_at hl 2 rfl) ?_
          refine lv_dup hx hb d_Pr_guessesWrong_74 rfl ?_
          refine va_get (D := gD G) (ci := 4) (v := .int (cI σ 10)) (C := R_Pr) (T := F_Pr) (N := 2) hx hb (wl_Pr hT) (fun _ h9 => h9) hown hK hP 12 rfl rfl 0 (by decide) (k_111 hT) (fun _ h9 => h9) rfl d_Pr_guessesWrong_75 ?_
          refine lv_iconst (v := 1) hx hb d_Pr_guessesWrong_78 (by decide) ?_
          refine lv_iadd hx hb d_Pr_guessesWrong_79 ?_
          refine va_put (D := gD G) (ci := 4) (v := .int ((cI σ 10) + 1)) (ty := .int) (C := R_Pr) (T := F_Pr) (N := 2) hx hb (wl_Pr hT) (fun _ h9 => h9) fy_Pr fy_Pr_ok fn_Pr hown hK hP hD hS 12 rfl rfl 0 (by decide) (k_111 hT) (fun _ h9 => h9) rfl (by decide +kernel) rfl rfl (Nat.le_of_ble_eq_true rfl) d_Pr_guessesWrong_80 (fun H locs hP hD hS => ?_)
          have hP : va_P (gD G) classes (cw G (sI (sJ σ 5 (upd (cJ σ 5) (x - x / 8 * 8).toNatClampNeg (imin (((cJ σ 5) (x - x / 8 * 8).toNatClampNeg) + 1) 3))) 10 ((cI σ 10) + 1))) H := hP
          have hD : va_D (gA G) (cw G (sI (sJ σ 5 (upd (cJ σ 5) (x - x / 8 * 8).toNatClampNeg (imin (((cJ σ 5) (x - x / 8 * 8).toNatClampNeg) + 1) 3))) 10 ((cI σ 10) + 1))) := g.d
          refine lv_iload hx hb d_Pr_guessesWrong_83 (lv_at hl 0 rfl) ?_
          exact end_z (u := (sI (sJ σ 5 (upd (cJ σ 5) (x - x / 8 * 8).toNatClampNeg (imin (((cJ σ 5) (x - x / 8 * 8).toNatClampNeg) + 1) 3))) 10 ((cI σ 10) + 1))) hx hb hr hlocks hS hP d_Pr_guessesWrong_85 rfl (⟨by revert c12 c21 c37; cases j <;> first | (simp +contextual [gwW, b2i, ix]; done) | (simp +contextual [gwW, b2i, ix]; intro h8 h9; exact absurd h9 (Int32.not_lt.mpr h8)), by revert c12 c21 c37; cases j <;> first | (simp +contextual [gwF, gwW, b2i, ix]; done) | (simp +contextual [gwF, gwW, b2i, ix]; intro h8 h9; exact absurd h9 (Int32.not_lt.mpr h8))⟩)

set_option maxHeartbeats 4000000 in
set_option maxRecDepth 100000 in
theorem K_Ck_readyTime {l : Launch} {G : GT} (g : GOK l G) (σ : CS) (r : Int32) (h : r = -1 ∨ vp_in r 12) : cx_M l y_Ck_readyTime (.code y_Ck_readyTime b_Ck_readyTime 2 (some .int)) 0 0 (gA G) [.ref (gad G 5), .int r] (Cw G σ) (Ri G (fun k u => k = rtF σ r ∧ u = σ)) (Tn) := by
  refine cx_of (by decide +kernel) ?_
  intro p e s m below meth c s₁ B hml ht hc
  have hx := B.exec
  have hb := B.bytes
  have hr := B.returns
  have hown : s.vm.findClass R_Ck = some m.cls := findClass_of_methodNamed B.named
  have hlocks := B.notSynchronized
  have hT := g.tb hc
  have hK := g.k hc
  have hD := g.d (σ := σ)
  have hS : va_S (gA G) s.heap s.heap [] := va_S.rf
  have hP := hc.2.2
  have hl := lv_entry ([.ref (gad G 5), .int r]) (n := 2) (Nat.le_of_ble_eq_true rfl)
  rw [lg_entry_eq]
  generalize (lg_sl ([.ref (gad G 5), .int r]) ++ List.replicate (2 - (lg_sl ([.ref (gad G 5), .int r])).length) Slot.unset).toArray = ls at hl ⊢
  have hl : lv_has ls 2 [(0, .ref (gad G 5)), (1, .int r)] := hl
  refine lv_iload_n hx hb d_Ck_readyTime_0 rfl (lv_at hl 1 rfl) ?_
  refine lv_iconst (v := (-1)) hx hb d_Ck_readyTime_1 (by decide) ?_
  refine lv_icmp_ne (tgt := 9) hx hb d_Ck_readyTime_2 (by decide) (fun c2 => ?_) (fun c2 => ?_)
  · refine lv_aload_n hx hb d_Ck_readyTime_9 rfl (lv_at hl 0 rfl) ?_
    refine va_get (D := gD G) (ci := 0) (v := .ref (gad G 6)) (C := R_Ck) (T := F_Ck) (N := 5) hx hb (wl_Ck hT) (fun _ h9 => h9) hown hK hP 5 rfl rfl 0 (by decide) (k_34 hT) (fun _ h9 => h9) rfl d_Ck_readyTime_10 ?_
    refine lv_iload_n hx hb d_Ck_readyTime_13 rfl (lv_at hl 1 rfl) ?_
    refine va_iald (f := (cJ σ 1)) hx hb hK hP 6 0 rfl rfl (h.resolve_left c2) d_Ck_readyTime_14 ?_
    exact end_i (u := σ) hx hb hr hlocks hS hP d_Ck_readyTime_15 (⟨by simp [rtF, ix, c2], rfl⟩)
  · refine lv_iconst (v := 0) hx hb d_Ck_readyTime_5 (by decide) ?_
    refine lv_goto (tgt := 15) hx hb d_Ck_readyTime_6 (by decide) ?_
    exact end_i (u := σ) hx hb hr hlocks hS hP d_Ck_readyTime_15 (⟨by simp [rtF, ix, c2], rfl⟩)

set_option maxHeartbeats 4000000 in
set_option maxRecDepth 100000 in
theorem K_Ck_beginning {l : Launch} {G : GT} (g : GOK l G) (σ : CS) {i : Nat} (hi : i < 24) (h : okQ (cQ σ i)) (lat : Int32) (gm : Bool) : cx_M l y_Ck_beginning (.code y_Ck_beginning b_Ck_beginning 5 (some .int)) 1 21 (gA G) [.ref (gad G 5), .ref (gia G i), .int lat, .int (b2i gm)] (Cw G σ) (Ri G (fun r u => r = bgF σ (cQ σ i) lat gm ∧ u = σ)) (Tn) := by
  refine cx_of (by decide +kernel) ?_
  intro p e s m below meth c s₁ B hml ht hc
  have hx := B.exec
  have hb := B.bytes
  have hr := B.returns
  have hown : s.vm.findClass R_Ck = some m.cls := findClass_of_methodNamed B.named
  have hlocks := B.notSynchronized
  have hT := g.tb hc
  have hK := g.k hc
  have hD := g.d (σ := σ)
  have hS : va_S (gA G) s.heap s.heap [] := va_S.rf
  have hP := hc.2.2
  have hl := lv_entry ([.ref (gad G 5), .ref (gia G i), .int lat, .int (b2i gm)]) (n := 5) (Nat.le_of_ble_eq_true rfl)
  rw [lg_entry_eq]
  generalize (lg_sl ([.ref (gad G 5), .ref (gia G i), .int lat, .int (b2i gm)]) ++ List.replicate (5 - (lg_sl ([.ref (gad G 5), .ref (gia G i), .int lat, .int (b2i gm)])).length) Slot.unset).toArray = ls at hl ⊢
  have hl : lv_has ls 5 [(0, .ref (gad G 5)), (1, .ref (gia G i)), (2, .int lat), (3, .int (b2i gm))] := hl
  refine lv_aload_n hx hb d_Ck_beginning_0 rfl (lv_at hl 0 rfl) ?_
  refine va_get (D := gD G) (ci := 0) (v := .int (cI σ 3)) (C := R_Ck) (T := F_Ck) (N := 5) hx hb (wl_Ck hT) (fun _ h9 => h9) hown hK hP 5 rfl rfl 1 (by decide) (k_36 hT) (fun _ h9 => h9) rfl d_Ck_beginning_1 ?_
  refine lv_iconst (v := 1) hx hb d_Ck_beginning_4 (by decide) ?_
  refine lv_iadd hx hb d_Ck_beginning_5 ?_
  refine lv_iload_n hx hb d_Ck_beginning_6 rfl (lv_at hl 3 rfl) ?_
  refine W_tern (a := 4) (b := 0) (L := 14) (J := 15) hx hb d_Ck_beginning_7 (by decide) d_Ck_beginning_10 (by decide) d_Ck_beginning_11 (by decide) d_Ck_beginning_14 (by decide) rfl ?_
  refine lv_iadd hx hb d_Ck_beginning_15 ?_
  refine lv_aload_n hx hb d_Ck_beginning_16 rfl (lv_at hl 0 rfl) ?_
  refine va_get (D := gD G) (ci := 0) (v := .int (cI σ 6)) (C := R_Ck) (T := F_Ck) (N := 5) hx hb (wl_Ck hT) (fun _ h9 => h9) hown hK hP 5 rfl rfl 4 (by decide) (k_40 hT) (fun _ h9 => h9) rfl d_Ck_beginning_17 ?_
  refine W_tern (a := 2) (b := 0) (L := 27) (J := 28) hx hb d_Ck_beginning_20 (by decide) d_Ck_beginning_23 (by decide) d_Ck_beginning_24 (by decide) d_Ck_beginning_27 (by decide) rfl ?_
  refine lv_iadd hx hb d_Ck_beginning_28 ?_
  refine lv_istore (lv' := [(4, .int ((((cI σ 3) + 1) + (if (b2i gm) = 0 then 0 else 4)) + (if (cI σ 6) = 0 then 0 else 2))), (0, .ref (gad G 5)), (1, .ref (gia G i)), (2, .int lat), (3, .int (b2i gm))]) hx hb d_Ck_beginning_29 hl (by decide) rfl (fun ls hl => ?_)
  refine lv_iload hx hb d_Ck_beginning_31 (lv_at hl 0 rfl) ?_
  refine lv_aload_n hx hb d_Ck_beginning_33 rfl (lv_at hl 1 rfl) ?_
  refine lv_aload_n hx hb d_Ck_beginning_34 rfl (lv_at hl 2 rfl) ?_
  refine va_get (D := gD G) (ci := 3) (v := .int (cQ σ i 6)) (C := R_In) (T := F_In) (N := 8) hx hb (wl_In hT) (fun _ h9 => h9) hown hK hP (19 + i) (cw_in hi) rfl 6 (by decide) (k_159 hT) (fun _ h9 => h9) rfl d_Ck_beginning_35 ?_
  refine cx_V (n := 1) (C := R_Ck) (As := [.int (cQ σ i 6)]) (rest := [.int ((((cI σ 3) + 1) + (if (b2i gm) = 0 then 0 else 4)) + (if (cI σ 6) = 0 then 0 else 2))]) ⟨hx, hb, hml, hown, fun _ h9 => nomatch h9⟩ (K_Ck_readyTime g σ (cQ σ i 6) h.2.2.2.2.2.1) (k_525 hT) (k_527 hT) (ks_17 hT) (k_528 hT) (k_2 hT) rfl (by decide +kernel) (va_recv hK hP (ci := 0) (q0 := 5) rfl rfl) (hc.at g hS hP) ⟨by decide, by decide⟩ ⟨by decide, by decide⟩ hl.1 (Nat.le_of_ble_eq_true rfl) d_Ck_beginning_38 (fun _ h9 => h9) hS (fun _ _ _ _ _ _ _ h9 => h9.elim) (fun v t H locs ht9 hRt hz hk hS => ?_)
  obtain ⟨r, u, rfl, ⟨er, eu⟩, hP⟩ := hRt
  subst er
  rw [eu, ht9] at hP
  have hD : va_D (gA G) (cw G σ) := g.d
  refine W.eq (g2 := F0 m 41 ls [.int (rtF σ (cQ σ i 6)), .int ((((cI σ 3) + 1) + (if (b2i gm) = 0 then 0 else 4)) + (if (cI σ 6) = 0 then 0 else 2))]) rfl ?_
  refine va_mmax hx hb (by rw [hml]; exact hl.1.symm) hown (k_529 hT) (k_276 hT) (k_16 hT) (k_277 hT) (by decide) (Nat.le_of_ble_eq_true rfl) (by decide) (by decide) d_Ck_beginning_41 ?_
  refine lv_istore (lv' := [(4, .int (imax ((((cI σ 3) + 1) + (if (b2i gm) = 0 then 0 else 4)) + (if (cI σ 6) = 0 then 0 else 2)) (rtF σ (cQ σ i 6)))), (0, .ref (gad G 5)), (1, .ref (gia G i)), (2, .int lat), (3, .int (b2i gm))]) hx hb d_Ck_beginning_44 hl (by decide) rfl (fun ls hl => ?_)
  refine lv_iload hx hb d_Ck_beginning_46 (lv_at hl 0 rfl) ?_
  refine lv_aload_n hx hb d_Ck_beginning_48 rfl (lv_at hl 1 rfl) ?_
  refine lv_aload_n hx hb d_Ck_beginning_49 rfl (lv_at hl 2 rfl) ?_
  refine va_get (D := gD G) (ci := 3) (v := .int (cQ σ i 7)) (C := R_In) (T := F_In) (N := 8) hx hb (wl_In hT) (fun _ h9 => h9) hown hK hP (19 + i) (cw_in hi) rfl 7 (by decide) (k_161 hT) (fun _ h9 => h9) rfl d_Ck_beginning_50 ?_
  refine cx_V (n := 1) (C := R_Ck) (As := [.int (cQ σ i 7)]) (rest := [.int (imax ((((cI σ 3) + 1) + (if (b2i gm) = 0 then 0 else 4)) + (if (cI σ 6) = 0 then 0 else 2)) (rtF σ (cQ σ i 6)))]) ⟨hx, hb, hml, hown, fun _ h9 => nomatch h9⟩ (K_Ck_readyTime g σ (cQ σ i 7) h.2.2.2.2.2.2) (k_525 hT) (k_527 hT) (ks_17 hT) (k_528 hT) (k_2 hT) rfl (by decide +kernel) (va_recv hK hP (ci := 0) (q0 := 5) rfl rfl) (hc.at g hS hP) ⟨by decide, by decide⟩ ⟨by decide, by decide⟩ hl.1 (Nat.le_of_ble_eq_true rfl) d_Ck_beginning_53 (fun _ h9 => h9) hS (fun _ _ _ _ _ _ _ h9 => h9.elim) (fun v t H locs ht9 hRt hz hk hS => ?_)
  obtain ⟨r, u, rfl, ⟨er, eu⟩, hP⟩ := hRt
  subst er
  rw [eu, ht9] at hP
  have hD : va_D (gA G) (cw G σ) := g.d
  refine W.eq (g2 := F0 m 56 ls [.int (rtF σ (cQ σ i 7)), .int (imax ((((cI σ 3) + 1) + (if (b2i gm) = 0 then 0 else 4)) + (if (cI σ 6) = 0 then 0 else 2)) (rtF σ (cQ σ i 6)))]) rfl ?_
  refine va_mmax hx hb (by rw [hml]; exact hl.1.symm) hown (k_529 hT) (k_276 hT) (k_16 hT) (k_277 hT) (by decide) (Nat.le_of_ble_eq_true rfl) (by decide) (by decide) d_Ck_beginning_56 ?_
  refine lv_istore (lv' := [(4, .int (imax (imax ((((cI σ 3) + 1) + (if (b2i gm) = 0 then 0 else 4)) + (if (cI σ 6) = 0 then 0 else 2)) (rtF σ (cQ σ i 6))) (rtF σ (cQ σ i 7)))), (0, .ref (gad G 5)), (1, .ref (gia G i)), (2, .int lat), (3, .int (b2i gm))]) hx hb d_Ck_beginning_59 hl (by decide) rfl (fun ls hl => ?_)
  refine lv_aload_n hx hb d_Ck_beginning_61 rfl (lv_at hl 2 rfl) ?_
  refine va_get (D := gD G) (ci := 3) (v := .int (cQ σ i 0)) (C := R_In) (T := F_In) (N := 8) hx hb (wl_In hT) (fun _ h9 => h9) hown hK hP (19 + i) (cw_in hi) rfl 0 (by decide) (k_146 hT) (fun _ h9 => h9) rfl d_Ck_beginning_62 ?_
  refine lv_bipush (v := 13) hx hb d_Ck_beginning_65 (by decide) ?_
  refine W_join (α := Int32) (P := fun j67 ls => j67 = (if cQ σ i 0 = 13 then imax (imax (imax ((((cI σ 3) + 1) + (if (b2i gm) = 0 then 0 else 4)) + (if (cI σ 6) = 0 then 0 else 2)) (rtF σ (cQ σ i 6))) (rtF σ (cQ σ i 7))) (cI σ 4) else (imax (imax ((((cI σ 3) + 1) + (if (b2i gm) = 0 then 0 else 4)) + (if (cI σ 6) = 0 then 0 else 2)) (rtF σ (cQ σ i 6))) (rtF σ (cQ σ i 7)))) ∧ lv_has ls 5 [(4, .int j67), (0, .ref (gad G 5)), (1, .ref (gia G i)), (2, .int lat), (3, .int (b2i gm))]) (fun j67 ls => F0 m 81 ls []) (fun j67 ls hj67 => ?_) (fun J67 => ?_)
  · obtain ⟨ej67, hl⟩ := hj67
    refine lv_aload_n hx hb d_Ck_beginning_81 rfl (lv_at hl 2 rfl) ?_
    refine cx_V (n := 0) (C := R_In) (As := []) (rest := []) ⟨hx, hb, hml, hown, fun _ h9 => nomatch h9⟩ (K_In_goesToMemory g σ hi) (k_530 hT) (k_436 hT) (k_437 hT) (k_438 hT) (k_8 hT) rfl (by decide +kernel) (va_recv hK hP (ci := 3) (q0 := 19 + i) rfl (cw_in hi)) (hc.at g hS hP) ⟨by decide, by decide⟩ ⟨by decide, by decide⟩ hl.1 (Nat.le_of_ble_eq_true rfl) d_Ck_beginning_82 (fun _ h9 => h9) hS (fun _ _ _ _ _ _ _ h9 => h9.elim) (fun v t H locs ht9 hRt hz hk hS => ?_)
    obtain ⟨r, u, rfl, ⟨er, eu⟩, hP⟩ := hRt
    subst er
    rw [eu, ht9] at hP
    have hD : va_D (gA G) (cw G σ) := g.d
    refine W.eq (g2 := F0 m 85 ls [.int (b2i (memQ (cQ σ i)))]) rfl ?_
    refine W_join (α := Int32) (P := fun j85 ls => j85 = (if memQ (cQ σ i) then imax j67 (cI σ 5) else j67) ∧ lv_has ls 5 [(4, .int j85), (0, .ref (gad G 5)), (1, .ref (gia G i)), (2, .int lat), (3, .int (b2i gm))]) (fun j85 ls => F0 m 99 ls []) (fun j85 ls hj85 => ?_) (fun J85 => ?_)
    · obtain ⟨ej85, hl⟩ := hj85
      refine lv_iload hx hb d_Ck_beginning_99 (lv_at hl 0 rfl) ?_
      refine lv_aload_n hx hb d_Ck_beginning_101 rfl (lv_at hl 1 rfl) ?_
      refine lv_aload_n hx hb d_Ck_beginning_102 rfl (lv_at hl 2 rfl) ?_
      refine va_get (D := gD G) (ci := 3) (v := .int (cQ σ i 5)) (C := R_In) (T := F_In) (N := 8) hx hb (wl_In hT) (fun _ h9 => h9) hown hK hP (19 + i) (cw_in hi) rfl 5 (by decide) (k_157 hT) (fun _ h9 => h9) rfl d_Ck_beginning_103 ?_
      refine cx_V (n := 1) (C := R_Ck) (As := [.int (cQ σ i 5)]) (rest := [.int j85]) ⟨hx, hb, hml, hown, fun _ h9 => nomatch h9⟩ (K_Ck_readyTime g σ (cQ σ i 5) h.2.2.2.2.1) (k_525 hT) (k_527 hT) (ks_17 hT) (k_528 hT) (k_2 hT) rfl (by decide +kernel) (va_recv hK hP (ci := 0) (q0 := 5) rfl rfl) (hc.at g hS hP) ⟨by decide, by decide⟩ ⟨by decide, by decide⟩ hl.1 (Nat.le_of_ble_eq_true rfl) d_Ck_beginning_106 (fun _ h9 => h9) hS (fun _ _ _ _ _ _ _ h9 => h9.elim) (fun v t H locs ht9 hRt hz hk hS => ?_)
      obtain ⟨r, u, rfl, ⟨er, eu⟩, hP⟩ := hRt
      subst er
      rw [eu, ht9] at hP
      have hD : va_D (gA G) (cw G σ) := g.d
      refine W.eq (g2 := F0 m 109 ls [.int (rtF σ (cQ σ i 5)), .int j85]) rfl ?_
      refine lv_iload_n hx hb d_Ck_beginning_109 rfl (lv_at hl 3 rfl) ?_
      refine lv_isub hx hb d_Ck_beginning_110 ?_
      refine lv_iconst (v := 1) hx hb d_Ck_beginning_111 (by decide) ?_
      refine lv_iadd hx hb d_Ck_beginning_112 ?_
      refine va_mmax hx hb (by rw [hml]; exact hl.1.symm) hown (k_529 hT) (k_276 hT) (k_16 hT) (k_277 hT) (by decide) (Nat.le_of_ble_eq_true rfl) (by decide) (by decide) d_Ck_beginning_113 ?_
      exact end_i (u := σ) hx hb hr hlocks hS hP d_Ck_beginning_116 (⟨by rw [ej85, ej67]; rfl, rfl⟩)
    · refine lv_if_eq (tgt := 99) hx hb d_Ck_beginning_85 (by decide) (fun c85 => ?_) (fun c85 => ?_)
      · have c85 := b2i0 c85
        exact J85 _ _ ⟨by simp [c85], lv_sub hl [0, 1, 2, 3, 4] rfl⟩
      · have c85 := b2i1 c85
        refine lv_iload hx hb d_Ck_beginning_88 (lv_at hl 0 rfl) ?_
        refine lv_aload_n hx hb d_Ck_beginning_90 rfl (lv_at hl 1 rfl) ?_
        refine va_get (D := gD G) (ci := 0) (v := .int (cI σ 5)) (C := R_Ck) (T := F_Ck) (N := 5) hx hb (wl_Ck hT) (fun _ h9 => h9) hown hK hP 5 rfl rfl 3 (by decide) (k_39 hT) (fun _ h9 => h9) rfl d_Ck_beginning_91 ?_
        refine va_mmax hx hb (by rw [hml]; exact hl.1.symm) hown (k_529 hT) (k_276 hT) (k_16 hT) (k_277 hT) (by decide) (Nat.le_of_ble_eq_true rfl) (by decide) (by decide) d_Ck_beginning_94 ?_
        refine lv_istore (lv' := [(4, .int (imax j67 (cI σ 5))), (0, .ref (gad G 5)), (1, .ref (gia G i)), (2, .int lat), (3, .int (b2i gm))]) hx hb d_Ck_beginning_97 hl (by decide) rfl (fun ls hl => ?_)
        exact J85 _ _ ⟨by simp [c85], lv_sub hl [0, 1, 2, 3, 4] rfl⟩
  · refine lv_icmp_ne (tgt := 81) hx hb d_Ck_beginning_67 (by decide) (fun c67 => ?_) (fun c67 => ?_)
    · exact J67 _ _ ⟨by simp [c67], lv_sub hl [0, 1, 2, 3, 4] rfl⟩
    · refine lv_iload hx hb d_Ck_beginning_70 (lv_at hl 0 rfl) ?_
      refine lv_aload_n hx hb d_Ck_beginning_72 rfl (lv_at hl 1 rfl) ?_
      refine va_get (D := gD G) (ci := 0) (v := .int (cI σ 4)) (C := R_Ck) (T := F_Ck) (N := 5) hx hb (wl_Ck hT) (fun _ h9 => h9) hown hK hP 5 rfl rfl 2 (by decide) (k_38 hT) (fun _ h9 => h9) rfl d_Ck_beginning_73 ?_
      refine va_mmax hx hb (by rw [hml]; exact hl.1.symm) hown (k_529 hT) (k_276 hT) (k_16 hT) (k_277 hT) (by decide) (Nat.le_of_ble_eq_true rfl) (by decide) (by decide) d_Ck_beginning_76 ?_
      refine lv_istore (lv' := [(4, .int (imax (imax (imax ((((cI σ 3) + 1) + (if (b2i gm) = 0 then 0 else 4)) + (if (cI σ 6) = 0 then 0 else 2)) (rtF σ (cQ σ i 6))) (rtF σ (cQ σ i 7))) (cI σ 4))), (0, .ref (gad G 5)), (1, .ref (gia G i)), (2, .int lat), (3, .int (b2i gm))]) hx hb d_Ck_beginning_79 hl (by decide) rfl (fun ls hl => ?_)
      exact J67 _ _ ⟨by simp [c67], lv_sub hl [0, 1, 2, 3, 4] rfl⟩

set_option maxHeartbeats 4000000 in
set_option maxRecDepth 100000 in
theorem K_Ck_begin {l : Launch} {G : GT} (g : GOK l G) (σ : CS) {i : Nat} (hi : i < 24) (h : okQ (cQ σ i)) (gm lm wj : Bool) : cx_M l y_Ck_begin (.code y_Ck_begin b_Ck_begin 7 none) 2 45 (gA G) [.ref (gad G 5), .ref (gia G i), .int (b2i gm), .int (b2i lm), .int (b2i wj)] (Cw G σ) (Rv G (fun u => u = beF σ (cQ σ i) gm lm wj)) (Tn) := by
  refine cx_of (by decide +kernel) ?_
  intro p e s m below meth c s₁ B hml ht hc
  have hx := B.exec
  have hb := B.bytes
  have hr := B.returns
  have hown : s.vm.findClass R_Ck = some m.cls := findClass_of_methodNamed B.named
  have hlocks := B.notSynchronized
  have hT := g.tb hc
  have hK := g.k hc
  have hD := g.d (σ := σ)
  have hS : va_S (gA G) s.heap s.heap [] := va_S.rf
  have hP := hc.2.2
  have hl := lv_entry ([.ref (gad G 5), .ref (gia G i), .int (b2i gm), .int (b2i lm), .int (b2i wj)]) (n := 7) (Nat.le_of_ble_eq_true rfl)
  rw [lg_entry_eq]
  generalize (lg_sl ([.ref (gad G 5), .ref (gia G i), .int (b2i gm), .int (b2i lm), .int (b2i wj)]) ++ List.replicate (7 - (lg_sl ([.ref (gad G 5), .ref (gia G i), .int (b2i gm), .int (b2i lm), .int (b2i wj)])).length) Slot.unset).toArray = ls at hl ⊢
  have hl : lv_has ls 7 [(0, .ref (gad G 5)), (1, .ref (gia G i)), (2, .int (b2i gm)), (3, .int (b2i lm)), (4, .int (b2i wj))] := hl
  refine lv_iload_n hx hb d_Ck_begin_0 rfl (lv_at hl 3 rfl) ?_
  refine W_tern (a := 5) (b := 0) (L := 8) (J := 9) hx hb d_Ck_begin_1 (by decide) d_Ck_begin_4 (by decide) d_Ck_begin_5 (by decide) d_Ck_begin_8 (by decide) rfl ?_
  refine lv_istore (lv' := [(5, .int (if (b2i lm) = 0 then 0 else 5)), (0, .ref (gad G 5)), (1, .ref (gia G i)), (2, .int (b2i gm)), (3, .int (b2i lm)), (4, .int (b2i wj))]) hx hb d_Ck_begin_9 hl (by decide) rfl (fun ls hl => ?_)
  refine lv_aload_n hx hb d_Ck_begin_11 rfl (lv_at hl 2 rfl) ?_
  refine cx_V (n := 0) (C := R_In) (As := []) (rest := []) ⟨hx, hb, hml, hown, fun _ h9 => nomatch h9⟩ (K_In_latency g σ hi h.1) (k_520 hT) (k_270 hT) (k_271 hT) (k_272 hT) (k_8 hT) rfl (by decide +kernel) (va_recv hK hP (ci := 3) (q0 := 19 + i) rfl (cw_in hi)) (hc.at g hS hP) ⟨by decide, by decide⟩ ⟨by decide, by decide⟩ hl.1 (Nat.le_of_ble_eq_true rfl) d_Ck_begin_12 (fun _ h9 => h9) hS (fun _ _ _ _ _ _ _ h9 => h9.elim) (fun v t H locs ht9 hRt hz hk hS => ?_)
  obtain ⟨r, u, rfl, ⟨er, eu⟩, hP⟩ := hRt
  subst er
  rw [eu, ht9] at hP
  have hD : va_D (gA G) (cw G σ) := g.d
  refine W.eq (g2 := F0 m 15 ls [.int (latT (cQ σ i 0).toNatClampNeg)]) rfl ?_
  refine lv_iload hx hb d_Ck_begin_15 (lv_at hl 0 rfl) ?_
  refine lv_iadd hx hb d_Ck_begin_17 ?_
  refine lv_istore (lv' := [(6, .int ((latT (cQ σ i 0).toNatClampNeg) + (if (b2i lm) = 0 then 0 else 5))), (5, .int (if (b2i lm) = 0 then 0 else 5)), (0, .ref (gad G 5)), (1, .ref (gia G i)), (2, .int (b2i gm)), (3, .int (b2i lm)), (4, .int (b2i wj))]) hx hb d_Ck_begin_18 hl (by decide) rfl (fun ls hl => ?_)
  refine lv_aload_n hx hb d_Ck_begin_20 rfl (lv_at hl 2 rfl) ?_
  refine lv_aload_n hx hb d_Ck_begin_21 rfl (lv_at hl 2 rfl) ?_
  refine lv_aload_n hx hb d_Ck_begin_22 rfl (lv_at hl 3 rfl) ?_
  refine lv_iload hx hb d_Ck_begin_23 (lv_at hl 0 rfl) ?_
  refine lv_iload_n hx hb d_Ck_begin_25 rfl (lv_at hl 4 rfl) ?_
  refine cx_V (n := 3) (C := R_Ck) (As := [.ref (gia G i), .int ((latT (cQ σ i 0).toNatClampNeg) + (if (b2i lm) = 0 then 0 else 5)), .int (b2i gm)]) (rest := [.ref (gad G 5)]) ⟨hx, hb, hml, hown, fun _ h9 => nomatch h9⟩ (K_Ck_beginning g σ hi h ((latT (cQ σ i 0).toNatClampNeg) + (if (b2i lm) = 0 then 0 else 5)) gm) (k_521 hT) (k_523 hT) (ks_16 hT) (k_524 hT) (k_2 hT) rfl (by decide +kernel) (va_recv hK hP (ci := 0) (q0 := 5) rfl rfl) (hc.at g hS hP) ⟨by decide, by decide⟩ ⟨by decide, by decide⟩ hl.1 (Nat.le_of_ble_eq_true rfl) d_Ck_begin_26 (fun _ h9 => h9) hS (fun _ _ _ _ _ _ _ h9 => h9.elim) (fun v t H locs ht9 hRt hz hk hS => ?_)
  obtain ⟨r, u, rfl, ⟨er, eu⟩, hP⟩ := hRt
  subst er
  rw [eu, ht9] at hP
  have hD : va_D (gA G) (cw G σ) := g.d
  refine W.eq (g2 := F0 m 29 ls [.int (bgF σ (cQ σ i) ((latT (cQ σ i 0).toNatClampNeg) + (if (b2i lm) = 0 then 0 else 5)) gm), .ref (gad G 5)]) rfl ?_
  refine va_put (D := gD G) (ci := 0) (v := .int (bgF σ (cQ σ i) ((latT (cQ σ i 0).toNatClampNeg) + (if (b2i lm) = 0 then 0 else 5)) gm)) (ty := .int) (C := R_Ck) (T := F_Ck) (N := 5) hx hb (wl_Ck hT) (fun _ h9 => h9) fy_Ck fy_Ck_ok fn_Ck hown hK hP hD hS 5 rfl rfl 1 (by decide) (k_36 hT) (fun _ h9 => h9) rfl (by decide +kernel) rfl rfl (Nat.le_of_ble_eq_true rfl) d_Ck_begin_29 (fun H locs hP hD hS => ?_)
  have hP : va_P (gD G) classes (cw G (sI σ 3 (bgF σ (cQ σ i) ((latT (cQ σ i 0).toNatClampNeg) + (if (b2i lm) = 0 then 0 else 5)) gm))) H := hP
  have hD : va_D (gA G) (cw G (sI σ 3 (bgF σ (cQ σ i) ((latT (cQ σ i 0).toNatClampNeg) + (if (b2i lm) = 0 then 0 else 5)) gm))) := g.d
  refine lv_aload_n hx hb d_Ck_begin_32 rfl (lv_at hl 2 rfl) ?_
  refine lv_iload hx hb d_Ck_begin_33 (lv_at hl 6 rfl) ?_
  refine va_put (D := gD G) (ci := 0) (v := .int (b2i wj)) (ty := .boolean) (C := R_Ck) (T := F_Ck) (N := 5) hx hb (wl_Ck hT) (fun _ h9 => h9) fy_Ck fy_Ck_ok fn_Ck hown hK hP hD hS 5 rfl rfl 4 (by decide) (k_40 hT) (fun _ h9 => h9) rfl (by decide +kernel) (nb_b _) (fb_b _) (Nat.le_of_ble_eq_true rfl) d_Ck_begin_35 (fun H locs hP hD hS => ?_)
  have hP : va_P (gD G) classes (cw G (sI (sI σ 3 (bgF σ (cQ σ i) ((latT (cQ σ i 0).toNatClampNeg) + (if (b2i lm) = 0 then 0 else 5)) gm)) 6 (b2i wj))) H := hP
  have hD : va_D (gA G) (cw G (sI (sI σ 3 (bgF σ (cQ σ i) ((latT (cQ σ i 0).toNatClampNeg) + (if (b2i lm) = 0 then 0 else 5)) gm)) 6 (b2i wj))) := g.d
  refine lv_aload_n hx hb d_Ck_begin_38 rfl (lv_at hl 3 rfl) ?_
  refine va_get (D := gD G) (ci := 3) (v := .int (cQ σ i 5)) (C := R_In) (T := F_In) (N := 8) hx hb (wl_In hT) (fun _ h9 => h9) hown hK hP (19 + i) (cw_in hi) rfl 5 (by decide) (k_157 hT) (fun _ h9 => h9) rfl d_Ck_begin_39 ?_
  refine lv_iconst (v := (-1)) hx hb d_Ck_begin_42 (by decide) ?_
  refine lv_icmp_eq (tgt := 62) hx hb d_Ck_begin_43 (by decide) (fun c43 => ?_) (fun c43 => ?_)
  · refine lv_aload_n hx hb d_Ck_begin_62 rfl (lv_at hl 3 rfl) ?_
    refine va_get (D := gD G) (ci := 3) (v := .int (cQ σ i 0)) (C := R_In) (T := F_In) (N := 8) hx hb (wl_In hT) (fun _ h9 => h9) hown hK hP (19 + i) (cw_in hi) rfl 0 (by decide) (k_146 hT) (fun _ h9 => h9) rfl d_Ck_begin_63 ?_
    refine lv_bipush (v := 13) hx hb d_Ck_begin_66 (by decide) ?_
    refine lv_icmp_ne (tgt := 82) hx hb d_Ck_begin_68 (by decide) (fun c68 => ?_) (fun c68 => ?_)
    · refine lv_aload_n hx hb d_Ck_begin_82 rfl (lv_at hl 3 rfl) ?_
      refine cx_V (n := 0) (C := R_In) (As := []) (rest := []) ⟨hx, hb, hml, hown, fun _ h9 => nomatch h9⟩ (K_In_goesToMemory g (sI (sI σ 3 (bgF σ (cQ σ i) ((latT (cQ σ i 0).toNatClampNeg) + (if (b2i lm) = 0 then 0 else 5)) gm)) 6 (b2i wj)) hi) (k_530 hT) (k_436 hT) (k_437 hT) (k_438 hT) (k_8 hT) rfl (by decide +kernel) (va_recv hK hP (ci := 3) (q0 := 19 + i) rfl (cw_in hi)) (hc.at g hS hP) ⟨by decide, by decide⟩ ⟨by decide, by decide⟩ hl.1 (Nat.le_of_ble_eq_true rfl) d_Ck_begin_83 (fun _ h9 => h9) hS (fun _ _ _ _ _ _ _ h9 => h9.elim) (fun v t H locs ht9 hRt hz hk hS => ?_)
      obtain ⟨r, u, rfl, ⟨er, eu⟩, hP⟩ := hRt
      subst er
      rw [eu, ht9] at hP
      have hD : va_D (gA G) (cw G (sI (sI σ 3 (bgF σ (cQ σ i) ((latT (cQ σ i 0).toNatClampNeg) + (if (b2i lm) = 0 then 0 else 5)) gm)) 6 (b2i wj))) := g.d
      refine W.eq (g2 := F0 m 86 ls [.int (b2i (memQ (cQ σ i)))]) rfl ?_
      refine lv_if_eq (tgt := 102) hx hb d_Ck_begin_86 (by decide) (fun c86 => ?_) (fun c86 => ?_)
      · have c86 := b2i0 c86
        exact end_v (u := (sI (sI σ 3 (bgF σ (cQ σ i) ((latT (cQ σ i 0).toNatClampNeg) + (if (b2i lm) = 0 then 0 else 5)) gm)) 6 (b2i wj))) hx hb hr hlocks hS hP d_Ck_begin_102 (by first | (simp [beF, cI_sI, cJ_sI, cF_sI, cP_sI, cQ_sI, cI_sJ, cJ_sJ, cF_sJ, cP_sJ, cQ_sJ, cI_sF, cJ_sF, cF_sF, cP_sF, cQ_sF, cI_sP, cJ_sP, cF_sP, cP_sP, cQ_sP, ix, m4, c43, c68, c86]; done) | (revert c43 c68 c86; simp [beF, cI_sI, cJ_sI, cF_sI, cP_sI, cQ_sI, cI_sJ, cJ_sJ, cF_sJ, cP_sJ, cQ_sJ, cI_sF, cJ_sF, cF_sF, cP_sF, cQ_sF, cI_sP, cJ_sP, cF_sP, cP_sP, cQ_sP, ix, m4]))
      · have c86 := b2i1 c86
        refine lv_aload_n hx hb d_Ck_begin_89 rfl (lv_at hl 2 rfl) ?_
        refine lv_aload_n hx hb d_Ck_begin_90 rfl (lv_at hl 2 rfl) ?_
        refine va_get (D := gD G) (ci := 0) (v := .int (bgF σ (cQ σ i) ((latT (cQ σ i 0).toNatClampNeg) + (if (b2i lm) = 0 then 0 else 5)) gm)) (C := R_Ck) (T := F_Ck) (N := 5) hx hb (wl_Ck hT) (fun _ h9 => h9) hown hK hP 5 rfl rfl 1 (by decide) (k_36 hT) (fun _ h9 => h9) rfl d_Ck_begin_91 ?_
        refine lv_iconst (v := 1) hx hb d_Ck_begin_94 (by decide) ?_
        refine lv_iadd hx hb d_Ck_begin_95 ?_
        refine lv_iload hx hb d_Ck_begin_96 (lv_at hl 1 rfl) ?_
        refine lv_iadd hx hb d_Ck_begin_98 ?_
        refine va_put (D := gD G) (ci := 0) (v := .int (((bgF σ (cQ σ i) ((latT (cQ σ i 0).toNatClampNeg) + (if (b2i lm) = 0 then 0 else 5)) gm) + 1) + (if (b2i lm) = 0 then 0 else 5))) (ty := .int) (C := R_Ck) (T := F_Ck) (N := 5) hx hb (wl_Ck hT) (fun _ h9 => h9) fy_Ck fy_Ck_ok fn_Ck hown hK hP hD hS 5 rfl rfl 3 (by decide) (k_39 hT) (fun _ h9 => h9) rfl (by decide +kernel) rfl rfl (Nat.le_of_ble_eq_true rfl) d_Ck_begin_99 (fun H locs hP hD hS => ?_)
        have hP : va_P (gD G) classes (cw G (sI (sI (sI σ 3 (bgF σ (cQ σ i) ((latT (cQ σ i 0).toNatClampNeg) + (if (b2i lm) = 0 then 0 else 5)) gm)) 6 (b2i wj)) 5 (((bgF σ (cQ σ i) ((latT (cQ σ i 0).toNatClampNeg) + (if (b2i lm) = 0 then 0 else 5)) gm) + 1) + (if (b2i lm) = 0 then 0 else 5)))) H := hP
        have hD : va_D (gA G) (cw G (sI (sI (sI σ 3 (bgF σ (cQ σ i) ((latT (cQ σ i 0).toNatClampNeg) + (if (b2i lm) = 0 then 0 else 5)) gm)) 6 (b2i wj)) 5 (((bgF σ (cQ σ i) ((latT (cQ σ i 0).toNatClampNeg) + (if (b2i lm) = 0 then 0 else 5)) gm) + 1) + (if (b2i lm) = 0 then 0 else 5)))) := g.d
        exact end_v (u := (sI (sI (sI σ 3 (bgF σ (cQ σ i) ((latT (cQ σ i 0).toNatClampNeg) + (if (b2i lm) = 0 then 0 else 5)) gm)) 6 (b2i wj)) 5 (((bgF σ (cQ σ i) ((latT (cQ σ i 0).toNatClampNeg) + (if (b2i lm) = 0 then 0 else 5)) gm) + 1) + (if (b2i lm) = 0 then 0 else 5)))) hx hb hr hlocks hS hP d_Ck_begin_102 (by first | (simp [beF, cI_sI, cJ_sI, cF_sI, cP_sI, cQ_sI, cI_sJ, cJ_sJ, cF_sJ, cP_sJ, cQ_sJ, cI_sF, cJ_sF, cF_sF, cP_sF, cQ_sF, cI_sP, cJ_sP, cF_sP, cP_sP, cQ_sP, ix, m4, c43, c68, c86]; done) | (revert c43 c68 c86; simp [beF, cI_sI, cJ_sI, cF_sI, cP_sI, cQ_sI, cI_sJ, cJ_sJ, cF_sJ, cP_sJ, cQ_sJ, cI_sF, cJ_sF, cF_sF, cP_sF, cQ_sF, cI_sP, cJ_sP, cF_sP, cP_sP, cQ_sP, ix, m4]))
    · refine lv_aload_n hx hb d_Ck_begin_71 rfl (lv_at hl 2 rfl) ?_
      refine lv_aload_n hx hb d_Ck_begin_72 rfl (lv_at hl 2 rfl) ?_
      refine va_get (D := gD G) (ci := 0) (v := .int (bgF σ (cQ σ i) ((latT (cQ σ i 0).toNatClampNeg) + (if (b2i lm) = 0 then 0 else 5)) gm)) (C := R_Ck) (T := F_Ck) (N := 5) hx hb (wl_Ck hT) (fun _ h9 => h9) hown hK hP 5 rfl rfl 1 (by decide) (k_36 hT) (fun _ h9 => h9) rfl d_Ck_begin_73 ?_
      refine lv_bipush (v := 8) hx hb d_Ck_begin_76 (by decide) ?_
      refine lv_iadd hx hb d_Ck_begin_78 ?_
      refine va_put (D := gD G) (ci := 0) (v := .int ((bgF σ (cQ σ i) ((latT (cQ σ i 0).toNatClampNeg) + (if (b2i lm) = 0 then 0 else 5)) gm) + 8)) (ty := .int) (C := R_Ck) (T := F_Ck) (N := 5) hx hb (wl_Ck hT) (fun _ h9 => h9) fy_Ck fy_Ck_ok fn_Ck hown hK hP hD hS 5 rfl rfl 2 (by decide) (k_38 hT) (fun _ h9 => h9) rfl (by decide +kernel) rfl rfl (Nat.le_of_ble_eq_true rfl) d_Ck_begin_79 (fun H locs hP hD hS => ?_)
      have hP : va_P (gD G) classes (cw G (sI (sI (sI σ 3 (bgF σ (cQ σ i) ((latT (cQ σ i 0).toNatClampNeg) + (if (b2i lm) = 0 then 0 else 5)) gm)) 6 (b2i wj)) 4 ((bgF σ (cQ σ i) ((latT (cQ σ i 0).toNatClampNeg) + (if (b2i lm) = 0 then 0 else 5)) gm) + 8))) H := hP
      have hD : va_D (gA G) (cw G (sI (sI (sI σ 3 (bgF σ (cQ σ i) ((latT (cQ σ i 0).toNatClampNeg) + (if (b2i lm) = 0 then 0 else 5)) gm)) 6 (b2i wj)) 4 ((bgF σ (cQ σ i) ((latT (cQ σ i 0).toNatClampNeg) + (if (b2i lm) = 0 then 0 else 5)) gm) + 8))) := g.d
      refine lv_aload_n hx hb d_Ck_begin_82 rfl (lv_at hl 3 rfl) ?_
      refine cx_V (n := 0) (C := R_In) (As := []) (rest := []) ⟨hx, hb, hml, hown, fun _ h9 => nomatch h9⟩ (K_In_goesToMemory g (sI (sI (sI σ 3 (bgF σ (cQ σ i) ((latT (cQ σ i 0).toNatClampNeg) + (if (b2i lm) = 0 then 0 else 5)) gm)) 6 (b2i wj)) 4 ((bgF σ (cQ σ i) ((latT (cQ σ i 0).toNatClampNeg) + (if (b2i lm) = 0 then 0 else 5)) gm) + 8)) hi) (k_530 hT) (k_436 hT) (k_437 hT) (k_438 hT) (k_8 hT) rfl (by decide +kernel) (va_recv hK hP (ci := 3) (q0 := 19 + i) rfl (cw_in hi)) (hc.at g hS hP) ⟨by decide, by decide⟩ ⟨by decide, by decide⟩ hl.1 (Nat.le_of_ble_eq_true rfl) d_Ck_begin_83 (fun _ h9 => h9) hS (fun _ _ _ _ _ _ _ h9 => h9.elim) (fun v t H locs ht9 hRt hz hk hS => ?_)
      obtain ⟨r, u, rfl, ⟨er, eu⟩, hP⟩ := hRt
      subst er
      rw [eu, ht9] at hP
      have hD : va_D (gA G) (cw G (sI (sI (sI σ 3 (bgF σ (cQ σ i) ((latT (cQ σ i 0).toNatClampNeg) + (if (b2i lm) = 0 then 0 else 5)) gm)) 6 (b2i wj)) 4 ((bgF σ (cQ σ i) ((latT (cQ σ i 0).toNatClampNeg) + (if (b2i lm) = 0 then 0 else 5)) gm) + 8))) := g.d
      refine W.eq (g2 := F0 m 86 ls [.int (b2i (memQ (cQ σ i)))]) rfl ?_
      refine lv_if_eq (tgt := 102) hx hb d_Ck_begin_86 (by decide) (fun c86 => ?_) (fun c86 => ?_)
      · have c86 := b2i0 c86
        exact end_v (u := (sI (sI (sI σ 3 (bgF σ (cQ σ i) ((latT (cQ σ i 0).toNatClampNeg) + (if (b2i lm) = 0 then 0 else 5)) gm)) 6 (b2i wj)) 4 ((bgF σ (cQ σ i) ((latT (cQ σ i 0).toNatClampNeg) + (if (b2i lm) = 0 then 0 else 5)) gm) + 8))) hx hb hr hlocks hS hP d_Ck_begin_102 (by first | (simp [beF, cI_sI, cJ_sI, cF_sI, cP_sI, cQ_sI, cI_sJ, cJ_sJ, cF_sJ, cP_sJ, cQ_sJ, cI_sF, cJ_sF, cF_sF, cP_sF, cQ_sF, cI_sP, cJ_sP, cF_sP, cP_sP, cQ_sP, ix, m4, c43, c68, c86]; done) | (revert c43 c68 c86; simp [beF, cI_sI, cJ_sI, cF_sI, cP_sI, cQ_sI, cI_sJ, cJ_sJ, cF_sJ, cP_sJ, cQ_sJ, cI_sF, cJ_sF, cF_sF, cP_sF, cQ_sF, cI_sP, cJ_sP, cF_sP, cP_sP, cQ_sP, ix, m4]))
      · have c86 := b2i1 c86
        refine lv_aload_n hx hb d_Ck_begin_89 rfl (lv_at hl 2 rfl) ?_
        refine lv_aload_n hx hb d_Ck_begin_90 rfl (lv_at hl 2 rfl) ?_
        refine va_get (D := gD G) (ci := 0) (v := .int (bgF σ (cQ σ i) ((latT (cQ σ i 0).toNatClampNeg) + (if (b2i lm) = 0 then 0 else 5)) gm)) (C := R_Ck) (T := F_Ck) (N := 5) hx hb (wl_Ck hT) (fun _ h9 => h9) hown hK hP 5 rfl rfl 1 (by decide) (k_36 hT) (fun _ h9 => h9) rfl d_Ck_begin_91 ?_
        refine lv_iconst (v := 1) hx hb d_Ck_begin_94 (by decide) ?_
        refine lv_iadd hx hb d_Ck_begin_95 ?_
        refine lv_iload hx hb d_Ck_begin_96 (lv_at hl 1 rfl) ?_
        refine lv_iadd hx hb d_Ck_begin_98 ?_
        refine va_put (D := gD G) (ci := 0) (v := .int (((bgF σ (cQ σ i) ((latT (cQ σ i 0).toNatClampNeg) + (if (b2i lm) = 0 then 0 else 5)) gm) + 1) + (if (b2i lm) = 0 then 0 else 5))) (ty := .int) (C := R_Ck) (T := F_Ck) (N := 5) hx hb (wl_Ck hT) (fun _ h9 => h9) fy_Ck fy_Ck_ok fn_Ck hown hK hP hD hS 5 rfl rfl 3 (by decide) (k_39 hT) (fun _ h9 => h9) rfl (by decide +kernel) rfl rfl (Nat.le_of_ble_eq_true rfl) d_Ck_begin_99 (fun H locs hP hD hS => ?_)
        have hP : va_P (gD G) classes (cw G (sI (sI (sI (sI σ 3 (bgF σ (cQ σ i) ((latT (cQ σ i 0).toNatClampNeg) + (if (b2i lm) = 0 then 0 else 5)) gm)) 6 (b2i wj)) 4 ((bgF σ (cQ σ i) ((latT (cQ σ i 0).toNatClampNeg) + (if (b2i lm) = 0 then 0 else 5)) gm) + 8)) 5 (((bgF σ (cQ σ i) ((latT (cQ σ i 0).toNatClampNeg) + (if (b2i lm) = 0 then 0 else 5)) gm) + 1) + (if (b2i lm) = 0 then 0 else 5)))) H := hP
        have hD : va_D (gA G) (cw G (sI (sI (sI (sI σ 3 (bgF σ (cQ σ i) ((latT (cQ σ i 0).toNatClampNeg) + (if (b2i lm) = 0 then 0 else 5)) gm)) 6 (b2i wj)) 4 ((bgF σ (cQ σ i) ((latT (cQ σ i 0).toNatClampNeg) + (if (b2i lm) = 0 then 0 else 5)) gm) + 8)) 5 (((bgF σ (cQ σ i) ((latT (cQ σ i 0).toNatClampNeg) + (if (b2i lm) = 0 then 0 else 5)) gm) + 1) + (if (b2i lm) = 0 then 0 else 5)))) := g.d
        exact end_v (u := (sI (sI (sI (sI σ 3 (bgF σ (cQ σ i) ((latT (cQ σ i 0).toNatClampNeg) + (if (b2i lm) = 0 then 0 else 5)) gm)) 6 (b2i wj)) 4 ((bgF σ (cQ σ i) ((latT (cQ σ i 0).toNatClampNeg) + (if (b2i lm) = 0 then 0 else 5)) gm) + 8)) 5 (((bgF σ (cQ σ i) ((latT (cQ σ i 0).toNatClampNeg) + (if (b2i lm) = 0 then 0 else 5)) gm) + 1) + (if (b2i lm) = 0 then 0 else 5)))) hx hb hr hlocks hS hP d_Ck_begin_102 (by first | (simp [beF, cI_sI, cJ_sI, cF_sI, cP_sI, cQ_sI, cI_sJ, cJ_sJ, cF_sJ, cP_sJ, cQ_sJ, cI_sF, cJ_sF, cF_sF, cP_sF, cQ_sF, cI_sP, cJ_sP, cF_sP, cP_sP, cQ_sP, ix, m4, c43, c68, c86]; done) | (revert c43 c68 c86; simp [beF, cI_sI, cJ_sI, cF_sI, cP_sI, cQ_sI, cI_sJ, cJ_sJ, cF_sJ, cP_sJ, cQ_sJ, cI_sF, cJ_sF, cF_sF, cP_sF, cQ_sF, cI_sP, cJ_sP, cF_sP, cP_sP, cQ_sP, ix, m4]))
  · refine lv_aload_n hx hb d_Ck_begin_46 rfl (lv_at hl 2 rfl) ?_
    refine va_get (D := gD G) (ci := 0) (v := .ref (gad G 6)) (C := R_Ck) (T := F_Ck) (N := 5) hx hb (wl_Ck hT) (fun _ h9 => h9) hown hK hP 5 rfl rfl 0 (by decide) (k_34 hT) (fun _ h9 => h9) rfl d_Ck_begin_47 ?_
    refine lv_aload_n hx hb d_Ck_begin_50 rfl (lv_at hl 3 rfl) ?_
    refine va_get (D := gD G) (ci := 3) (v := .int (cQ σ i 5)) (C := R_In) (T := F_In) (N := 8) hx hb (wl_In hT) (fun _ h9 => h9) hown hK hP (19 + i) (cw_in hi) rfl 5 (by decide) (k_157 hT) (fun _ h9 => h9) rfl d_Ck_begin_51 ?_
    refine lv_aload_n hx hb d_Ck_begin_54 rfl (lv_at hl 2 rfl) ?_
    refine va_get (D := gD G) (ci := 0) (v := .int (bgF σ (cQ σ i) ((latT (cQ σ i 0).toNatClampNeg) + (if (b2i lm) = 0 then 0 else 5)) gm)) (C := R_Ck) (T := F_Ck) (N := 5) hx hb (wl_Ck hT) (fun _ h9 => h9) hown hK hP 5 rfl rfl 1 (by decide) (k_36 hT) (fun _ h9 => h9) rfl d_Ck_begin_55 ?_
    refine lv_iload hx hb d_Ck_begin_58 (lv_at hl 0 rfl) ?_
    refine lv_iadd hx hb d_Ck_begin_60 ?_
    refine va_iast (f := (cJ σ 1)) hx hb hK hP hD hS 6 0 rfl rfl (h.2.2.2.2.1.resolve_left c43) d_Ck_begin_61 (fun H locs hP hD hS => ?_)
    have hP : va_P (gD G) classes (cw G (sJ (sI (sI σ 3 (bgF σ (cQ σ i) ((latT (cQ σ i 0).toNatClampNeg) + (if (b2i lm) = 0 then 0 else 5)) gm)) 6 (b2i wj)) 1 (upd (cJ σ 1) (cQ σ i 5).toNatClampNeg ((bgF σ (cQ σ i) ((latT (cQ σ i 0).toNatClampNeg) + (if (b2i lm) = 0 then 0 else 5)) gm) + ((latT (cQ σ i 0).toNatClampNeg) + (if (b2i lm) = 0 then 0 else 5)))))) H := hP
    have hD : va_D (gA G) (cw G (sJ (sI (sI σ 3 (bgF σ (cQ σ i) ((latT (cQ σ i 0).toNatClampNeg) + (if (b2i lm) = 0 then 0 else 5)) gm)) 6 (b2i wj)) 1 (upd (cJ σ 1) (cQ σ i 5).toNatClampNeg ((bgF σ (cQ σ i) ((latT (cQ σ i 0).toNatClampNeg) + (if (b2i lm) = 0 then 0 else 5)) gm) + ((latT (cQ σ i 0).toNatClampNeg) + (if (b2i lm) = 0 then 0 else 5)))))) := g.d
    refine lv_aload_n hx hb d_Ck_begin_62 rfl (lv_at hl 3 rfl) ?_
    refine va_get (D := gD G) (ci := 3) (v := .int (cQ σ i 0)) (C := R_In) (T := F_In) (N := 8) hx hb (wl_In hT) (fun _ h9 => h9) hown hK hP (19 + i) (cw_in hi) rfl 0 (by decide) (k_146 hT) (fun _ h9 => h9) rfl d_Ck_begin_63 ?_
    refine lv_bipush (v := 13) hx hb d_Ck_begin_66 (by decide) ?_
    refine lv_icmp_ne (tgt := 82) hx hb d_Ck_begin_68 (by decide) (fun c68 => ?_) (fun c68 => ?_)
    · refine lv_aload_n hx hb d_Ck_begin_82 rfl (lv_at hl 3 rfl) ?_
      refine cx_V (n := 0) (C := R_In) (As := []) (rest := []) ⟨hx, hb, hml, hown, fun _ h9 => nomatch h9⟩ (K_In_goesToMemory g (sJ (sI (sI σ 3 (bgF σ (cQ σ i) ((latT (cQ σ i 0).toNatClampNeg) + (if (b2i lm) = 0 then 0 else 5)) gm)) 6 (b2i wj)) 1 (upd (cJ σ 1) (cQ σ i 5).toNatClampNeg ((bgF σ (cQ σ i) ((latT (cQ σ i 0).toNatClampNeg) + (if (b2i lm) = 0 then 0 else 5)) gm) + ((latT (cQ σ i 0).toNatClampNeg) + (if (b2i lm) = 0 then 0 else 5))))) hi) (k_530 hT) (k_436 hT) (k_437 hT) (k_438 hT) (k_8 hT) rfl (by decide +kernel) (va_recv hK hP (ci := 3) (q0 := 19 + i) rfl (cw_in hi)) (hc.at g hS hP) ⟨by decide, by decide⟩ ⟨by decide, by decide⟩ hl.1 (Nat.le_of_ble_eq_true rfl) d_Ck_begin_83 (fun _ h9 => h9) hS (fun _ _ _ _ _ _ _ h9 => h9.elim) (fun v t H locs ht9 hRt hz hk hS => ?_)
      obtain ⟨r, u, rfl, ⟨er, eu⟩, hP⟩ := hRt
      subst er
      rw [eu, ht9] at hP
      have hD : va_D (gA G) (cw G (sJ (sI (sI σ 3 (bgF σ (cQ σ i) ((latT (cQ σ i 0).toNatClampNeg) + (if (b2i lm) = 0 then 0 else 5)) gm)) 6 (b2i wj)) 1 (upd (cJ σ 1) (cQ σ i 5).toNatClampNeg ((bgF σ (cQ σ i) ((latT (cQ σ i 0).toNatClampNeg) + (if (b2i lm) = 0 then 0 else 5)) gm) + ((latT (cQ σ i 0).toNatClampNeg) + (if (b2i lm) = 0 then 0 else 5)))))) := g.d
      refine W.eq (g2 := F0 m 86 ls [.int (b2i (memQ (cQ σ i)))]) rfl ?_
      refine lv_if_eq (tgt := 102) hx hb d_Ck_begin_86 (by decide) (fun c86 => ?_) (fun c86 => ?_)
      · have c86 := b2i0 c86
        exact end_v (u := (sJ (sI (sI σ 3 (bgF σ (cQ σ i) ((latT (cQ σ i 0).toNatClampNeg) + (if (b2i lm) = 0 then 0 else 5)) gm)) 6 (b2i wj)) 1 (upd (cJ σ 1) (cQ σ i 5).toNatClampNeg ((bgF σ (cQ σ i) ((latT (cQ σ i 0).toNatClampNeg) + (if (b2i lm) = 0 then 0 else 5)) gm) + ((latT (cQ σ i 0).toNatClampNeg) + (if (b2i lm) = 0 then 0 else 5)))))) hx hb hr hlocks hS hP d_Ck_begin_102 (by first | (simp [beF, cI_sI, cJ_sI, cF_sI, cP_sI, cQ_sI, cI_sJ, cJ_sJ, cF_sJ, cP_sJ, cQ_sJ, cI_sF, cJ_sF, cF_sF, cP_sF, cQ_sF, cI_sP, cJ_sP, cF_sP, cP_sP, cQ_sP, ix, m4, c43, c68, c86]; done) | (revert c43 c68 c86; simp [beF, cI_sI, cJ_sI, cF_sI, cP_sI, cQ_sI, cI_sJ, cJ_sJ, cF_sJ, cP_sJ, cQ_sJ, cI_sF, cJ_sF, cF_sF, cP_sF, cQ_sF, cI_sP, cJ_sP, cF_sP, cP_sP, cQ_sP, ix, m4]))
      · have c86 := b2i1 c86
        refine lv_aload_n hx hb d_Ck_begin_89 rfl (lv_at hl 2 rfl) ?_
        refine lv_aload_n hx hb d_Ck_begin_90 rfl (lv_at hl 2 rfl) ?_
        refine va_get (D := gD G) (ci := 0) (v := .int (bgF σ (cQ σ i) ((latT (cQ σ i 0).toNatClampNeg) + (if (b2i lm) = 0 then 0 else 5)) gm)) (C := R_Ck) (T := F_Ck) (N := 5) hx hb (wl_Ck hT) (fun _ h9 => h9) hown hK hP 5 rfl rfl 1 (by decide) (k_36 hT) (fun _ h9 => h9) rfl d_Ck_begin_91 ?_
        refine lv_iconst (v := 1) hx hb d_Ck_begin_94 (by decide) ?_
        refine lv_iadd hx hb d_Ck_begin_95 ?_
        refine lv_iload hx hb d_Ck_begin_96 (lv_at hl 1 rfl) ?_
        refine lv_iadd hx hb d_Ck_begin_98 ?_
        refine va_put (D := gD G) (ci := 0) (v := .int (((bgF σ (cQ σ i) ((latT (cQ σ i 0).toNatClampNeg) + (if (b2i lm) = 0 then 0 else 5)) gm) + 1) + (if (b2i lm) = 0 then 0 else 5))) (ty := .int) (C := R_Ck) (T := F_Ck) (N := 5) hx hb (wl_Ck hT) (fun _ h9 => h9) fy_Ck fy_Ck_ok fn_Ck hown hK hP hD hS 5 rfl rfl 3 (by decide) (k_39 hT) (fun _ h9 => h9) rfl (by decide +kernel) rfl rfl (Nat.le_of_ble_eq_true rfl) d_Ck_begin_99 (fun H locs hP hD hS => ?_)
        have hP : va_P (gD G) classes (cw G (sI (sJ (sI (sI σ 3 (bgF σ (cQ σ i) ((latT (cQ σ i 0).toNatClampNeg) + (if (b2i lm) = 0 then 0 else 5)) gm)) 6 (b2i wj)) 1 (upd (cJ σ 1) (cQ σ i 5).toNatClampNeg ((bgF σ (cQ σ i) ((latT (cQ σ i 0).toNatClampNeg) + (if (b2i lm) = 0 then 0 else 5)) gm) + ((latT (cQ σ i 0).toNatClampNeg) + (if (b2i lm) = 0 then 0 else 5))))) 5 (((bgF σ (cQ σ i) ((latT (cQ σ i 0).toNatClampNeg) + (if (b2i lm) = 0 then 0 else 5)) gm) + 1) + (if (b2i lm) = 0 then 0 else 5)))) H := hP
        have hD : va_D (gA G) (cw G (sI (sJ (sI (sI σ 3 (bgF σ (cQ σ i) ((latT (cQ σ i 0).toNatClampNeg) + (if (b2i lm) = 0 then 0 else 5)) gm)) 6 (b2i wj)) 1 (upd (cJ σ 1) (cQ σ i 5).toNatClampNeg ((bgF σ (cQ σ i) ((latT (cQ σ i 0).toNatClampNeg) + (if (b2i lm) = 0 then 0 else 5)) gm) + ((latT (cQ σ i 0).toNatClampNeg) + (if (b2i lm) = 0 then 0 else 5))))) 5 (((bgF σ (cQ σ i) ((latT (cQ σ i 0).toNatClampNeg) + (if (b2i lm) = 0 then 0 else 5)) gm) + 1) + (if (b2i lm) = 0 then 0 else 5)))) := g.d
        exact end_v (u := (sI (sJ (sI (sI σ 3 (bgF σ (cQ σ i) ((latT (cQ σ i 0).toNatClampNeg) + (if (b2i lm) = 0 then 0 else 5)) gm)) 6 (b2i wj)) 1 (upd (cJ σ 1) (cQ σ i 5).toNatClampNeg ((bgF σ (cQ σ i) ((latT (cQ σ i 0).toNatClampNeg) + (if (b2i lm) = 0 then 0 else 5)) gm) + ((latT (cQ σ i 0).toNatClampNeg) + (if (b2i lm) = 0 then 0 else 5))))) 5 (((bgF σ (cQ σ i) ((latT (cQ σ i 0).toNatClampNeg) + (if (b2i lm) = 0 then 0 else 5)) gm) + 1) + (if (b2i lm) = 0 then 0 else 5)))) hx hb hr hlocks hS hP d_Ck_begin_102 (by first | (simp [beF, cI_sI, cJ_sI, cF_sI, cP_sI, cQ_sI, cI_sJ, cJ_sJ, cF_sJ, cP_sJ, cQ_sJ, cI_sF, cJ_sF, cF_sF, cP_sF, cQ_sF, cI_sP, cJ_sP, cF_sP, cP_sP, cQ_sP, ix, m4, c43, c68, c86]; done) | (revert c43 c68 c86; simp [beF, cI_sI, cJ_sI, cF_sI, cP_sI, cQ_sI, cI_sJ, cJ_sJ, cF_sJ, cP_sJ, cQ_sJ, cI_sF, cJ_sF, cF_sF, cP_sF, cQ_sF, cI_sP, cJ_sP, cF_sP, cP_sP, cQ_sP, ix, m4]))
    · refine lv_aload_n hx hb d_Ck_begin_71 rfl (lv_at hl 2 rfl) ?_
      refine lv_aload_n hx hb d_Ck_begin_72 rfl (lv_at hl 2 rfl) ?_
      refine va_get (D := gD G) (ci := 0) (v := .int (bgF σ (cQ σ i) ((latT (cQ σ i 0).toNatClampNeg) + (if (b2i lm) = 0 then 0 else 5)) gm)) (C := R_Ck) (T := F_Ck) (N := 5) hx hb (wl_Ck hT) (fun _ h9 => h9) hown hK hP 5 rfl rfl 1 (by decide) (k_36 hT) (fun _ h9 => h9) rfl d_Ck_begin_73 ?_
      refine lv_bipush (v := 8) hx hb d_Ck_begin_76 (by decide) ?_
      refine lv_iadd hx hb d_Ck_begin_78 ?_
      refine va_put (D := gD G) (ci := 0) (v := .int ((bgF σ (cQ σ i) ((latT (cQ σ i 0).toNatClampNeg) + (if (b2i lm) = 0 then 0 else 5)) gm) + 8)) (ty := .int) (C := R_Ck) (T := F_Ck) (N := 5) hx hb (wl_Ck hT) (fun _ h9 => h9) fy_Ck fy_Ck_ok fn_Ck hown hK hP hD hS 5 rfl rfl 2 (by decide) (k_38 hT) (fun _ h9 => h9) rfl (by decide +kernel) rfl rfl (Nat.le_of_ble_eq_true rfl) d_Ck_begin_79 (fun H locs hP hD hS => ?_)
      have hP : va_P (gD G) classes (cw G (sI (sJ (sI (sI σ 3 (bgF σ (cQ σ i) ((latT (cQ σ i 0).toNatClampNeg) + (if (b2i lm) = 0 then 0 else 5)) gm)) 6 (b2i wj)) 1 (upd (cJ σ 1) (cQ σ i 5).toNatClampNeg ((bgF σ (cQ σ i) ((latT (cQ σ i 0).toNatClampNeg) + (if (b2i lm) = 0 then 0 else 5)) gm) + ((latT (cQ σ i 0).toNatClampNeg) + (if (b2i lm) = 0 then 0 else 5))))) 4 ((bgF σ (cQ σ i) ((latT (cQ σ i 0).toNatClampNeg) + (if (b2i lm) = 0 then 0 else 5)) gm) + 8))) H := hP
      have hD : va_D (gA G) (cw G (sI (sJ (sI (sI σ 3 (bgF σ (cQ σ i) ((latT (cQ σ i 0).toNatClampNeg) + (if (b2i lm) = 0 then 0 else 5)) gm)) 6 (b2i wj)) 1 (upd (cJ σ 1) (cQ σ i 5).toNatClampNeg ((bgF σ (cQ σ i) ((latT (cQ σ i 0).toNatClampNeg) + (if (b2i lm) = 0 then 0 else 5)) gm) + ((latT (cQ σ i 0).toNatClampNeg) + (if (b2i lm) = 0 then 0 else 5))))) 4 ((bgF σ (cQ σ i) ((latT (cQ σ i 0).toNatClampNeg) + (if (b2i lm) = 0 then 0 else 5)) gm) + 8))) := g.d
      refine lv_aload_n hx hb d_Ck_begin_82 rfl (lv_at hl 3 rfl) ?_
      refine cx_V (n := 0) (C := R_In) (As := []) (rest := []) ⟨hx, hb, hml, hown, fun _ h9 => nomatch h9⟩ (K_In_goesToMemory g (sI (sJ (sI (sI σ 3 (bgF σ (cQ σ i) ((latT (cQ σ i 0).toNatClampNeg) + (if (b2i lm) = 0 then 0 else 5)) gm)) 6 (b2i wj)) 1 (upd (cJ σ 1) (cQ σ i 5).toNatClampNeg ((bgF σ (cQ σ i) ((latT (cQ σ i 0).toNatClampNeg) + (if (b2i lm) = 0 then 0 else 5)) gm) + ((latT (cQ σ i 0).toNatClampNeg) + (if (b2i lm) = 0 then 0 else 5))))) 4 ((bgF σ (cQ σ i) ((latT (cQ σ i 0).toNatClampNeg) + (if (b2i lm) = 0 then 0 else 5)) gm) + 8)) hi) (k_530 hT) (k_436 hT) (k_437 hT) (k_438 hT) (k_8 hT) rfl (by decide +kernel) (va_recv hK hP (ci := 3) (q0 := 19 + i) rfl (cw_in hi)) (hc.at g hS hP) ⟨by decide, by decide⟩ ⟨by decide, by decide⟩ hl.1 (Nat.le_of_ble_eq_true rfl) d_Ck_begin_83 (fun _ h9 => h9) hS (fun _ _ _ _ _ _ _ h9 => h9.elim) (fun v t H locs ht9 hRt hz hk hS => ?_)
      obtain ⟨r, u, rfl, ⟨er, eu⟩, hP⟩ := hRt
      subst er
      rw [eu, ht9] at hP
      have hD : va_D (gA G) (cw G (sI (sJ (sI (sI σ 3 (bgF σ (cQ σ i) ((latT (cQ σ i 0).toNatClampNeg) + (if (b2i lm) = 0 then 0 else 5)) gm)) 6 (b2i wj)) 1 (upd (cJ σ 1) (cQ σ i 5).toNatClampNeg ((bgF σ (cQ σ i) ((latT (cQ σ i 0).toNatClampNeg) + (if (b2i lm) = 0 then 0 else 5)) gm) + ((latT (cQ σ i 0).toNatClampNeg) + (if (b2i lm) = 0 then 0 else 5))))) 4 ((bgF σ (cQ σ i) ((latT (cQ σ i 0).toNatClampNeg) + (if (b2i lm) = 0 then 0 else 5)) gm) + 8))) := g.d
      refine W.eq (g2 := F0 m 86 ls [.int (b2i (memQ (cQ σ i)))]) rfl ?_
      refine lv_if_eq (tgt := 102) hx hb d_Ck_begin_86 (by decide) (fun c86 => ?_) (fun c86 => ?_)
      · have c86 := b2i0 c86
        exact end_v (u := (sI (sJ (sI (sI σ 3 (bgF σ (cQ σ i) ((latT (cQ σ i 0).toNatClampNeg) + (if (b2i lm) = 0 then 0 else 5)) gm)) 6 (b2i wj)) 1 (upd (cJ σ 1) (cQ σ i 5).toNatClampNeg ((bgF σ (cQ σ i) ((latT (cQ σ i 0).toNatClampNeg) + (if (b2i lm) = 0 then 0 else 5)) gm) + ((latT (cQ σ i 0).toNatClampNeg) + (if (b2i lm) = 0 then 0 else 5))))) 4 ((bgF σ (cQ σ i) ((latT (cQ σ i 0).toNatClampNeg) + (if (b2i lm) = 0 then 0 else 5)) gm) + 8))) hx hb hr hlocks hS hP d_Ck_begin_102 (by first | (simp [beF, cI_sI, cJ_sI, cF_sI, cP_sI, cQ_sI, cI_sJ, cJ_sJ, cF_sJ, cP_sJ, cQ_sJ, cI_sF, cJ_sF, cF_sF, cP_sF, cQ_sF, cI_sP, cJ_sP, cF_sP, cP_sP, cQ_sP, ix, m4, c43, c68, c86]; done) | (revert c43 c68 c86; simp [beF, cI_sI, cJ_sI, cF_sI, cP_sI, cQ_sI, cI_sJ, cJ_sJ, cF_sJ, cP_sJ, cQ_sJ, cI_sF, cJ_sF, cF_sF, cP_sF, cQ_sF, cI_sP, cJ_sP, cF_sP, cP_sP, cQ_sP, ix, m4]))
      · have c86 := b2i1 c86
        refine lv_aload_n hx hb d_Ck_begin_89 rfl (lv_at hl 2 rfl) ?_
        refine lv_aload_n hx hb d_Ck_begin_90 rfl (lv_at hl 2 rfl) ?_
        refine va_get (D := gD G) (ci := 0) (v := .int (bgF σ (cQ σ i) ((latT (cQ σ i 0).toNatClampNeg) + (if (b2i lm) = 0 then 0 else 5)) gm)) (C := R_Ck) (T := F_Ck) (N := 5) hx hb (wl_Ck hT) (fun _ h9 => h9) hown hK hP 5 rfl rfl 1 (by decide) (k_36 hT) (fun _ h9 => h9) rfl d_Ck_begin_91 ?_
        refine lv_iconst (v := 1) hx hb d_Ck_begin_94 (by decide) ?_
        refine lv_iadd hx hb d_Ck_begin_95 ?_
        refine lv_iload hx hb d_Ck_begin_96 (lv_at hl 1 rfl) ?_
        refine lv_iadd hx hb d_Ck_begin_98 ?_
        refine va_put (D := gD G) (ci := 0) (v := .int (((bgF σ (cQ σ i) ((latT (cQ σ i 0).toNatClampNeg) + (if (b2i lm) = 0 then 0 else 5)) gm) + 1) + (if (b2i lm) = 0 then 0 else 5))) (ty := .int) (C := R_Ck) (T := F_Ck) (N := 5) hx hb (wl_Ck hT) (fun _ h9 => h9) fy_Ck fy_Ck_ok fn_Ck hown hK hP hD hS 5 rfl rfl 3 (by decide) (k_39 hT) (fun _ h9 => h9) rfl (by decide +kernel) rfl rfl (Nat.le_of_ble_eq_true rfl) d_Ck_begin_99 (fun H locs hP hD hS => ?_)
        have hP : va_P (gD G) classes (cw G (sI (sI (sJ (sI (sI σ 3 (bgF σ (cQ σ i) ((latT (cQ σ i 0).toNatClampNeg) + (if (b2i lm) = 0 then 0 else 5)) gm)) 6 (b2i wj)) 1 (upd (cJ σ 1) (cQ σ i 5).toNatClampNeg ((bgF σ (cQ σ i) ((latT (cQ σ i 0).toNatClampNeg) + (if (b2i lm) = 0 then 0 else 5)) gm) + ((latT (cQ σ i 0).toNatClampNeg) + (if (b2i lm) = 0 then 0 else 5))))) 4 ((bgF σ (cQ σ i) ((latT (cQ σ i 0).toNatClampNeg) + (if (b2i lm) = 0 then 0 else 5)) gm) + 8)) 5 (((bgF σ (cQ σ i) ((latT (cQ σ i 0).toNatClampNeg) + (if (b2i lm) = 0 then 0 else 5)) gm) + 1) + (if (b2i lm) = 0 then 0 else 5)))) H := hP
        have hD : va_D (gA G) (cw G (sI (sI (sJ (sI (sI σ 3 (bgF σ (cQ σ i) ((latT (cQ σ i 0).toNatClampNeg) + (if (b2i lm) = 0 then 0 else 5)) gm)) 6 (b2i wj)) 1 (upd (cJ σ 1) (cQ σ i 5).toNatClampNeg ((bgF σ (cQ σ i) ((latT (cQ σ i 0).toNatClampNeg) + (if (b2i lm) = 0 then 0 else 5)) gm) + ((latT (cQ σ i 0).toNatClampNeg) + (if (b2i lm) = 0 then 0 else 5))))) 4 ((bgF σ (cQ σ i) ((latT (cQ σ i 0).toNatClampNeg) + (if (b2i lm) = 0 then 0 else 5)) gm) + 8)) 5 (((bgF σ (cQ σ i) ((latT (cQ σ i 0).toNatClampNeg) + (if (b2i lm) = 0 then 0 else 5)) gm) + 1) + (if (b2i lm) = 0 then 0 else 5)))) := g.d
        exact end_v (u := (sI (sI (sJ (sI (sI σ 3 (bgF σ (cQ σ i) ((latT (cQ σ i 0).toNatClampNeg) + (if (b2i lm) = 0 then 0 else 5)) gm)) 6 (b2i wj)) 1 (upd (cJ σ 1) (cQ σ i 5).toNatClampNeg ((bgF σ (cQ σ i) ((latT (cQ σ i 0).toNatClampNeg) + (if (b2i lm) = 0 then 0 else 5)) gm) + ((latT (cQ σ i 0).toNatClampNeg) + (if (b2i lm) = 0 then 0 else 5))))) 4 ((bgF σ (cQ σ i) ((latT (cQ σ i 0).toNatClampNeg) + (if (b2i lm) = 0 then 0 else 5)) gm) + 8)) 5 (((bgF σ (cQ σ i) ((latT (cQ σ i 0).toNatClampNeg) + (if (b2i lm) = 0 then 0 else 5)) gm) + 1) + (if (b2i lm) = 0 then 0 else 5)))) hx hb hr hlocks hS hP d_Ck_begin_102 (by first | (simp [beF, cI_sI, cJ_sI, cF_sI, cP_sI, cQ_sI, cI_sJ, cJ_sJ, cF_sJ, cP_sJ, cQ_sJ, cI_sF, cJ_sF, cF_sF, cP_sF, cQ_sF, cI_sP, cJ_sP, cF_sP, cP_sP, cQ_sP, ix, m4, c43, c68, c86]; done) | (revert c43 c68 c86; simp [beF, cI_sI, cJ_sI, cF_sI, cP_sI, cQ_sI, cI_sJ, cJ_sJ, cF_sJ, cP_sJ, cQ_sJ, cI_sF, cJ_sF, cF_sF, cP_sF, cQ_sF, cI_sP, cJ_sP, cF_sP, cP_sP, cQ_sP, ix, m4]))

