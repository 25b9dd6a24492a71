/-! CONTRACTS: the public methods that walk straight on -/
theorem cnt1 {w : Int32} (h1 : ¬ w < 10) (h2 : ¬ 18 ≤ w) : vp_in (w - 10) 12 := by
  have h3 : vp_in w 18 := by
    rw [vp_in_iff]
    rw [Int32.lt_iff_toInt_lt] at h1
    rw [Int32.le_iff_toInt_le] at h2
    have a1 : (10 : Int32).toInt = 10 := by decide
    have a2 : (18 : Int32).toInt = 18 := by decide
    omega
  obtain ⟨j, hj, rfl⟩ := vp_in_of h3 (by decide)
  have : ∀ j, j < 18 → ¬ nI j < 10 → vp_in (nI j - 10) 12 := by unfold vp_in; decide
  exact this j hj h1
theorem cnt2 {w : Int32} (h1 : ¬ w < 20) (h2 : ¬ 24 ≤ w) : vp_in (8 + w - 20) 12 := by
  have h3 : vp_in w 24 := by
    rw [vp_in_iff]
    rw [Int32.lt_iff_toInt_lt] at h1
    rw [Int32.le_iff_toInt_le] at h2
    have a1 : (20 : Int32).toInt = 20 := by decide
    have a2 : (24 : Int32).toInt = 24 := by decide
    omega
  obtain ⟨j, hj, rfl⟩ := vp_in_of h3 (by decide)
  have : ∀ j, j < 24 → ¬ nI j < 20 → vp_in (8 + nI j - 20) 12 := by unfold vp_in; decide
  exact this j hj h1
set_option maxHeartbeats 4000000 in
set_option maxRecDepth 100000 in
theorem K_Pc_whole {l : Launch} {G : GT} (g : GOK l G) (σ : CS) (r : Int32) : cx_M l y_Pc_whole (.code y_Pc_whole b_Pc_whole 2 (some .int)) 7 110 (gA G) [.ref (gad G 0), .int r] (Cw G σ) (Ri G (fun v u => (badR r 7 = false ∧ v = cJ σ 0 (ix r)) ∧ u = σ)) (Tw G (fun E u => E = "java/lang/IllegalArgumentException" ∧ badR r 7 = true ∧ u = σ)) := by
  refine cx_of (by decide +kernel) ?_
  intro p e s m below meth c s₁ B hml ht hc
  have hx := B.exec
  have hb := B.bytes
  have hr := B.returns
  have hown : s.vm.findClass R_Pc = some m.cls := findClass_of_methodNamed B.named
  have hlocks := B.notSynchronized
  have hT := g.tb hc
  have hK := g.k hc
  have hD := g.d (σ := σ)
  have hS : va_S (gA G) s.heap s.heap [] := va_S.rf
  have hP := hc.2.2
  have hl := lv_entry ([.ref (gad G 0), .int r]) (n := 2) (Nat.le_of_ble_eq_true rfl)
  rw [lg_entry_eq]
  generalize (lg_sl ([.ref (gad G 0), .int r]) ++ List.replicate (2 - (lg_sl ([.ref (gad G 0), .int r])).length) Slot.unset).toArray = ls at hl ⊢
  have hl : lv_has ls 2 [(0, .ref (gad G 0)), (1, .int r)] := hl
  refine lv_iload_n hx hb d_Pc_whole_0 rfl (lv_at hl 1 rfl) ?_
  refine lv_bipush (v := 7) hx hb d_Pc_whole_1 (by decide) ?_
  refine cx_S (n := 2) (As := [.int r, .int 7]) (rest := []) ⟨hx, hb, hml, hown, fun _ h9 => nomatch h9⟩ (K_Pc_refuseOutside g σ r 7) (k_294 hT) (k_295 hT) (k_296 hT) (k_1 hT) rfl (by decide +kernel) (hc.at g hS hP) ⟨by decide, by decide⟩ ⟨by decide, by decide⟩ hl.1 (Nat.le_of_ble_eq_true rfl) d_Pc_whole_3 (fun _ h9 => h9) hS (fun E ce q t H1 locs ht9 hTx hz hk hS hce hcv hcl => ?_) (fun v t H locs ht9 hRt hz hk hS => ?_)
  · obtain ⟨u, hq, hP⟩ := hTx; rw [ht9] at hP; exact cx_out ht hlocks hce hcv hcl hS (fun t9 h9 _ => Tw.i (u := u) (⟨hq.1, hq.2.1, hq.2.2⟩) (by rw [h9]; exact hP)) (by decide) (by decide)
  · obtain ⟨u, rfl, ⟨hb3, eu⟩, hP⟩ := hRt
    rw [eu, ht9] at hP
    have hD : va_D (gA G) (cw G σ) := g.d
    refine W.eq (g2 := F0 m 6 ls []) rfl ?_
    refine lv_aload_n hx hb d_Pc_whole_6 rfl (lv_at hl 0 rfl) ?_
    refine va_get (D := gD G) (ci := 6) (v := .ref (gad G 3)) (C := R_Pc) (T := F_Pc) (N := 12) hx hb (wl_Pc hT) (fun _ h9 => h9) hown hK hP 0 rfl rfl 2 (by decide) (k_181 hT) (fun _ h9 => h9) rfl d_Pc_whole_7 ?_
    refine lv_iload_n hx hb d_Pc_whole_10 rfl (lv_at hl 1 rfl) ?_
    refine va_iald (f := (cJ σ 0)) hx hb hK hP 3 0 rfl rfl (badR_in (by decide) hb3) d_Pc_whole_11 ?_
    exact end_i (u := σ) hx hb hr hlocks hS hP d_Pc_whole_12 (⟨⟨hb3, rfl⟩, rfl⟩)

set_option maxHeartbeats 4000000 in
set_option maxRecDepth 100000 in
theorem K_Pc_fraction {l : Launch} {G : GT} (g : GOK l G) (σ : CS) (r : Int32) : cx_M l y_Pc_fraction (.code y_Pc_fraction b_Pc_fraction 2 (some .double)) 7 110 (gA G) [.ref (gad G 0), .int r] (Cw G σ) (Rd G (fun v u => (badR r 3 = false ∧ v = cF σ 1 (ix r)) ∧ u = σ)) (Tw G (fun E u => E = "java/lang/IllegalArgumentException" ∧ badR r 3 = true ∧ u = σ)) := by
  refine cx_of (by decide +kernel) ?_
  intro p e s m below meth c s₁ B hml ht hc
  have hx := B.exec
  have hb := B.bytes
  have hr := B.returns
  have hown : s.vm.findClass R_Pc = some m.cls := findClass_of_methodNamed B.named
  have hlocks := B.notSynchronized
  have hT := g.tb hc
  have hK := g.k hc
  have hD := g.d (σ := σ)
  have hS : va_S (gA G) s.heap s.heap [] := va_S.rf
  have hP := hc.2.2
  have hl := lv_entry ([.ref (gad G 0), .int r]) (n := 2) (Nat.le_of_ble_eq_true rfl)
  rw [lg_entry_eq]
  generalize (lg_sl ([.ref (gad G 0), .int r]) ++ List.replicate (2 - (lg_sl ([.ref (gad G 0), .int r])).length) Slot.unset).toArray = ls at hl ⊢
  have hl : lv_has ls 2 [(0, .ref (gad G 0)), (1, .int r)] := hl
  refine lv_iload_n hx hb d_Pc_fraction_0 rfl (lv_at hl 1 rfl) ?_
  refine lv_iconst (v := 3) hx hb d_Pc_fraction_1 (by decide) ?_
  refine cx_S (n := 2) (As := [.int r, .int 3]) (rest := []) ⟨hx, hb, hml, hown, fun _ h9 => nomatch h9⟩ (K_Pc_refuseOutside g σ r 3) (k_294 hT) (k_295 hT) (k_296 hT) (k_1 hT) rfl (by decide +kernel) (hc.at g hS hP) ⟨by decide, by decide⟩ ⟨by decide, by decide⟩ hl.1 (Nat.le_of_ble_eq_true rfl) d_Pc_fraction_2 (fun _ h9 => h9) hS (fun E ce q t H1 locs ht9 hTx hz hk hS hce hcv hcl => ?_) (fun v t H locs ht9 hRt hz hk hS => ?_)
  · obtain ⟨u, hq, hP⟩ := hTx; rw [ht9] at hP; exact cx_out ht hlocks hce hcv hcl hS (fun t9 h9 _ => Tw.i (u := u) (⟨hq.1, hq.2.1, hq.2.2⟩) (by rw [h9]; exact hP)) (by decide) (by decide)
  · obtain ⟨u, rfl, ⟨hb2, eu⟩, hP⟩ := hRt
    rw [eu, ht9] at hP
    have hD : va_D (gA G) (cw G σ) := g.d
    refine W.eq (g2 := F0 m 5 ls []) rfl ?_
    refine lv_aload_n hx hb d_Pc_fraction_5 rfl (lv_at hl 0 rfl) ?_
    refine va_get (D := gD G) (ci := 6) (v := .ref (gad G 4)) (C := R_Pc) (T := F_Pc) (N := 12) hx hb (wl_Pc hT) (fun _ h9 => h9) hown hK hP 0 rfl rfl 3 (by decide) (k_182 hT) (fun _ h9 => h9) rfl d_Pc_fraction_6 ?_
    refine lv_iload_n hx hb d_Pc_fraction_9 rfl (lv_at hl 1 rfl) ?_
    refine va_dald (f := (cF σ 1)) hx hb hK hP 4 1 rfl rfl (badR_in (by decide) hb2) d_Pc_fraction_10 ?_
    exact end_d (u := σ) hx hb hr hlocks hS hP d_Pc_fraction_11 (⟨⟨hb2, rfl⟩, rfl⟩)

set_option maxHeartbeats 4000000 in
set_option maxRecDepth 100000 in
theorem K_Pc_memory {l : Launch} {G : GT} (g : GOK l G) (σ : CS) (r : Int32) : cx_M l y_Pc_memory (.code y_Pc_memory b_Pc_memory 2 (some .double)) 7 110 (gA G) [.ref (gad G 0), .int r] (Cw G σ) (Rd G (fun v u => (badR r 47 = false ∧ v = cF σ 0 (ix r)) ∧ u = σ)) (Tw G (fun E u => E = "java/lang/IllegalArgumentException" ∧ badR r 47 = true ∧ u = σ)) := by
  refine cx_of (by decide +kernel) ?_
  intro p e s m below meth c s₁ B hml ht hc
  have hx := B.exec
  have hb := B.bytes
  have hr := B.returns
  have hown : s.vm.findClass R_Pc = some m.cls := findClass_of_methodNamed B.named
  have hlocks := B.notSynchronized
  have hT := g.tb hc
  have hK := g.k hc
  have hD := g.d (σ := σ)
  have hS : va_S (gA G) s.heap s.heap [] := va_S.rf
  have hP := hc.2.2
  have hl := lv_entry ([.ref (gad G 0), .int r]) (n := 2) (Nat.le_of_ble_eq_true rfl)
  rw [lg_entry_eq]
  generalize (lg_sl ([.ref (gad G 0), .int r]) ++ List.replicate (2 - (lg_sl ([.ref (gad G 0), .int r])).length) Slot.unset).toArray = ls at hl ⊢
  have hl : lv_has ls 2 [(0, .ref (gad G 0)), (1, .int r)] := hl
  refine lv_iload_n hx hb d_Pc_memory_0 rfl (lv_at hl 1 rfl) ?_
  refine lv_bipush (v := 47) hx hb d_Pc_memory_1 (by decide) ?_
  refine cx_S (n := 2) (As := [.int r, .int 47]) (rest := []) ⟨hx, hb, hml, hown, fun _ h9 => nomatch h9⟩ (K_Pc_refuseOutside g σ r 47) (k_294 hT) (k_295 hT) (k_296 hT) (k_1 hT) rfl (by decide +kernel) (hc.at g hS hP) ⟨by decide, by decide⟩ ⟨by decide, by decide⟩ hl.1 (Nat.le_of_ble_eq_true rfl) d_Pc_memory_3 (fun _ h9 => h9) hS (fun E ce q t H1 locs ht9 hTx hz hk hS hce hcv hcl => ?_) (fun v t H locs ht9 hRt hz hk hS => ?_)
  · obtain ⟨u, hq, hP⟩ := hTx; rw [ht9] at hP; exact cx_out ht hlocks hce hcv hcl hS (fun t9 h9 _ => Tw.i (u := u) (⟨hq.1, hq.2.1, hq.2.2⟩) (by rw [h9]; exact hP)) (by decide) (by decide)
  · obtain ⟨u, rfl, ⟨hb3, eu⟩, hP⟩ := hRt
    rw [eu, ht9] at hP
    have hD : va_D (gA G) (cw G σ) := g.d
    refine W.eq (g2 := F0 m 6 ls []) rfl ?_
    refine lv_aload_n hx hb d_Pc_memory_6 rfl (lv_at hl 0 rfl) ?_
    refine va_get (D := gD G) (ci := 6) (v := .ref (gad G 2)) (C := R_Pc) (T := F_Pc) (N := 12) hx hb (wl_Pc hT) (fun _ h9 => h9) hown hK hP 0 rfl rfl 1 (by decide) (k_180 hT) (fun _ h9 => h9) rfl d_Pc_memory_7 ?_
    refine lv_iload_n hx hb d_Pc_memory_10 rfl (lv_at hl 1 rfl) ?_
    refine va_dald (f := (cF σ 0)) hx hb hK hP 2 1 rfl rfl (badR_in (by decide) hb3) d_Pc_memory_11 ?_
    exact end_d (u := σ) hx hb hr hlocks hS hP d_Pc_memory_12 (⟨⟨hb3, rfl⟩, rfl⟩)

set_option maxHeartbeats 4000000 in
set_option maxRecDepth 100000 in
theorem K_Pc_told {l : Launch} {G : GT} (g : GOK l G) (σ : CS) (i w : Int32) (wf : Wf σ) : cx_M l y_Pc_told (.code y_Pc_told b_Pc_told 4 (some .int)) 7 110 (gA G) [.ref (gad G 0), .int i, .int w] (Cw G σ) (Ri G (fun v u => ((badR i 23 = false ∧ badR w 4 = false) ∧ v = toldF (cQ σ (cP σ 0 (ix i))) w) ∧ u = σ)) (Tw G (fun E u => E = "java/lang/IllegalArgumentException" ∧ (badR i 23 = true ∨ badR w 4 = true) ∧ u = σ)) := by
  refine cx_of (by decide +kernel) ?_
  intro p e s m below meth c s₁ B hml ht hc
  have hx := B.exec
  have hb := B.bytes
  have hr := B.returns
  have hown : s.vm.findClass R_Pc = some m.cls := findClass_of_methodNamed B.named
  have hlocks := B.notSynchronized
  have hT := g.tb hc
  have hK := g.k hc
  have hD := g.d (σ := σ)
  have hS : va_S (gA G) s.heap s.heap [] := va_S.rf
  have hP := hc.2.2
  have hl := lv_entry ([.ref (gad G 0), .int i, .int w]) (n := 4) (Nat.le_of_ble_eq_true rfl)
  rw [lg_entry_eq]
  generalize (lg_sl ([.ref (gad G 0), .int i, .int w]) ++ List.replicate (4 - (lg_sl ([.ref (gad G 0), .int i, .int w])).length) Slot.unset).toArray = ls at hl ⊢
  have hl : lv_has ls 4 [(0, .ref (gad G 0)), (1, .int i), (2, .int w)] := hl
  refine lv_iload_n hx hb d_Pc_told_0 rfl (lv_at hl 1 rfl) ?_
  refine lv_bipush (v := 23) hx hb d_Pc_told_1 (by decide) ?_
  refine cx_S (n := 2) (As := [.int i, .int 23]) (rest := []) ⟨hx, hb, hml, hown, fun _ h9 => nomatch h9⟩ (K_Pc_refuseOutside g σ i 23) (k_294 hT) (k_295 hT) (k_296 hT) (k_1 hT) rfl (by decide +kernel) (hc.at g hS hP) ⟨by decide, by decide⟩ ⟨by decide, by decide⟩ hl.1 (Nat.le_of_ble_eq_true rfl) d_Pc_told_3 (fun _ h9 => h9) hS (fun E ce q t H1 locs ht9 hTx hz hk hS hce hcv hcl => ?_) (fun v t H locs ht9 hRt hz hk hS => ?_)
  · obtain ⟨u, hq, hP⟩ := hTx; rw [ht9] at hP; exact cx_out ht hlocks hce hcv hcl hS (fun t9 h9 _ => Tw.i (u := u) (⟨hq.1, Or.inl hq.2.1, hq.2.2⟩) (by rw [h9]; exact hP)) (by decide) (by decide)
  · obtain ⟨u, rfl, ⟨hb3, eu⟩, hP⟩ := hRt
    rw [eu, ht9] at hP
    have hD : va_D (gA G) (cw G σ) := g.d
    refine W.eq (g2 := F0 m 6 ls []) rfl ?_
    refine lv_iload_n hx hb d_Pc_told_6 rfl (lv_at hl 2 rfl) ?_
    refine lv_iconst (v := 4) hx hb d_Pc_told_7 (by decide) ?_
    refine cx_S (n := 2) (As := [.int w, .int 4]) (rest := []) ⟨hx, hb, hml, hown, fun _ h9 => nomatch h9⟩ (K_Pc_refuseOutside g σ w 4) (k_294 hT) (k_295 hT) (k_296 hT) (k_1 hT) rfl (by decide +kernel) (hc.at g hS hP) ⟨by decide, by decide⟩ ⟨by decide, by decide⟩ hl.1 (Nat.le_of_ble_eq_true rfl) d_Pc_told_8 (fun _ h9 => h9) hS (fun E ce q t H1 locs ht9 hTx hz hk hS hce hcv hcl => ?_) (fun v t H locs ht9 hRt hz hk hS => ?_)
    · obtain ⟨u, hq, hP⟩ := hTx; rw [ht9] at hP; exact cx_out ht hlocks hce hcv hcl hS (fun t9 h9 _ => Tw.i (u := u) (⟨hq.1, Or.inr hq.2.1, hq.2.2⟩) (by rw [h9]; exact hP)) (by decide) (by decide)
    · obtain ⟨u, rfl, ⟨hb8, eu⟩, hP⟩ := hRt
      rw [eu, ht9] at hP
      have hD : va_D (gA G) (cw G σ) := g.d
      refine W.eq (g2 := F0 m 11 ls []) rfl ?_
      refine lv_aload_n hx hb d_Pc_told_11 rfl (lv_at hl 0 rfl) ?_
      refine va_get (D := gD G) (ci := 6) (v := .ref (gad G 1)) (C := R_Pc) (T := F_Pc) (N := 12) hx hb (wl_Pc hT) (fun _ h9 => h9) hown hK hP 0 rfl rfl 0 (by decide) (k_179 hT) (fun _ h9 => h9) rfl d_Pc_told_12 ?_
      refine lv_iload_n hx hb d_Pc_told_15 rfl (lv_at hl 1 rfl) ?_
      refine ald_r (v := gia G ((cP σ 0) i.toNatClampNeg)) hx hb hK hP 1 3 rfl rfl (badR_in (by decide) hb3) (if_pos (wf.2.1 _ (vp_lt (badR_in (by decide) hb3)))) d_Pc_told_16 ?_
      refine lv_astore_n (lv' := [(3, .ref (gia G ((cP σ 0) i.toNatClampNeg))), (0, .ref (gad G 0)), (1, .int i), (2, .int w)]) hx hb d_Pc_told_17 rfl hl (by decide) rfl (fun ls hl => ?_)
      refine lv_iload_n hx hb d_Pc_told_18 rfl (lv_at hl 3 rfl) ?_
      by_cases c19_0 : w = 0
      · refine lv_tableIn (tgt := 48) hx hb d_Pc_told_19 (by rw [c19_0]; decide) (by rw [c19_0]; decide) (by rw [c19_0]; rfl) (by decide) ?_
        refine lv_aload_n hx hb d_Pc_told_48 rfl (lv_at hl 0 rfl) ?_
        refine va_get (D := gD G) (ci := 3) (v := .int (cQ σ ((cP σ 0) i.toNatClampNeg) 0)) (C := R_In) (T := F_In) (N := 8) hx hb (wl_In hT) (fun _ h9 => h9) hown hK hP (19 + ((cP σ 0) i.toNatClampNeg)) (cw_in (wf.2.1 _ (vp_lt (badR_in (by decide) hb3)))) rfl 0 (by decide) (k_147 hT) (fun _ h9 => h9) rfl d_Pc_told_49 ?_
        exact end_i (u := σ) hx hb hr hlocks hS hP d_Pc_told_52 (⟨⟨⟨hb3, hb8⟩, by simp [toldF, ix, c19_0]⟩, rfl⟩)
      by_cases c19_1 : w = 1
      · refine lv_tableIn (tgt := 53) hx hb d_Pc_told_19 (by rw [c19_1]; decide) (by rw [c19_1]; decide) (by rw [c19_1]; rfl) (by decide) ?_
        refine lv_aload_n hx hb d_Pc_told_53 rfl (lv_at hl 0 rfl) ?_
        refine va_get (D := gD G) (ci := 3) (v := .int (cQ σ ((cP σ 0) i.toNatClampNeg) 1)) (C := R_In) (T := F_In) (N := 8) hx hb (wl_In hT) (fun _ h9 => h9) hown hK hP (19 + ((cP σ 0) i.toNatClampNeg)) (cw_in (wf.2.1 _ (vp_lt (badR_in (by decide) hb3)))) rfl 1 (by decide) (k_149 hT) (fun _ h9 => h9) rfl d_Pc_told_54 ?_
        exact end_i (u := σ) hx hb hr hlocks hS hP d_Pc_told_57 (⟨⟨⟨hb3, hb8⟩, by simp [toldF, ix, c19_0, c19_1]⟩, rfl⟩)
      by_cases c19_2 : w = 2
      · refine lv_tableIn (tgt := 58) hx hb d_Pc_told_19 (by rw [c19_2]; decide) (by rw [c19_2]; decide) (by rw [c19_2]; rfl) (by decide) ?_
        refine lv_aload_n hx hb d_Pc_told_58 rfl (lv_at hl 0 rfl) ?_
        refine va_get (D := gD G) (ci := 3) (v := .int (cQ σ ((cP σ 0) i.toNatClampNeg) 2)) (C := R_In) (T := F_In) (N := 8) hx hb (wl_In hT) (fun _ h9 => h9) hown hK hP (19 + ((cP σ 0) i.toNatClampNeg)) (cw_in (wf.2.1 _ (vp_lt (badR_in (by decide) hb3)))) rfl 2 (by decide) (k_151 hT) (fun _ h9 => h9) rfl d_Pc_told_59 ?_
        exact end_i (u := σ) hx hb hr hlocks hS hP d_Pc_told_62 (⟨⟨⟨hb3, hb8⟩, by simp [toldF, ix, c19_0, c19_1, c19_2]⟩, rfl⟩)
      by_cases c19_3 : w = 3
      · refine lv_tableIn (tgt := 63) hx hb d_Pc_told_19 (by rw [c19_3]; decide) (by rw [c19_3]; decide) (by rw [c19_3]; rfl) (by decide) ?_
        refine lv_aload_n hx hb d_Pc_told_63 rfl (lv_at hl 0 rfl) ?_
        refine va_get (D := gD G) (ci := 3) (v := .int (cQ σ ((cP σ 0) i.toNatClampNeg) 3)) (C := R_In) (T := F_In) (N := 8) hx hb (wl_In hT) (fun _ h9 => h9) hown hK hP (19 + ((cP σ 0) i.toNatClampNeg)) (cw_in (wf.2.1 _ (vp_lt (badR_in (by decide) hb3)))) rfl 3 (by decide) (k_153 hT) (fun _ h9 => h9) rfl d_Pc_told_64 ?_
        exact end_i (u := σ) hx hb hr hlocks hS hP d_Pc_told_67 (⟨⟨⟨hb3, hb8⟩, by simp [toldF, ix, c19_0, c19_1, c19_2, c19_3]⟩, rfl⟩)
      refine lv_tableOut (tgt := 68) hx hb d_Pc_told_19 (tsw_out (n := 4) (l := [0, 1, 2, 3]) (by decide) (by decide) (by simp [c19_0, c19_1, c19_2, c19_3])) (by decide) ?_
      refine lv_aload_n hx hb d_Pc_told_68 rfl (lv_at hl 0 rfl) ?_
      refine va_get (D := gD G) (ci := 3) (v := .int (cQ σ ((cP σ 0) i.toNatClampNeg) 4)) (C := R_In) (T := F_In) (N := 8) hx hb (wl_In hT) (fun _ h9 => h9) hown hK hP (19 + ((cP σ 0) i.toNatClampNeg)) (cw_in (wf.2.1 _ (vp_lt (badR_in (by decide) hb3)))) rfl 4 (by decide) (k_155 hT) (fun _ h9 => h9) rfl d_Pc_told_69 ?_
      exact end_i (u := σ) hx hb hr hlocks hS hP d_Pc_told_72 (⟨⟨⟨hb3, hb8⟩, by simp [toldF, ix, c19_0, c19_1, c19_2, c19_3]⟩, rfl⟩)

set_option maxHeartbeats 4000000 in
set_option maxRecDepth 100000 in
theorem K_Pc_count {l : Launch} {G : GT} (g : GOK l G) (σ : CS) (w : Int32) : cx_M l y_Pc_count (.code y_Pc_count b_Pc_count 2 (some .int)) 0 0 (gA G) [.ref (gad G 0), .int w] (Cw G σ) (Ri G (fun v u => v = cntF σ w ∧ u = σ)) (Tn) := by
  refine cx_of (by decide +kernel) ?_
  intro p e s m below meth c s₁ B hml ht hc
  have hx := B.exec
  have hb := B.bytes
  have hr := B.returns
  have hown : s.vm.findClass R_Pc = some m.cls := findClass_of_methodNamed B.named
  have hlocks := B.notSynchronized
  have hT := g.tb hc
  have hK := g.k hc
  have hD := g.d (σ := σ)
  have hS : va_S (gA G) s.heap s.heap [] := va_S.rf
  have hP := hc.2.2
  have hl := lv_entry ([.ref (gad G 0), .int w]) (n := 2) (Nat.le_of_ble_eq_true rfl)
  rw [lg_entry_eq]
  generalize (lg_sl ([.ref (gad G 0), .int w]) ++ List.replicate (2 - (lg_sl ([.ref (gad G 0), .int w])).length) Slot.unset).toArray = ls at hl ⊢
  have hl : lv_has ls 2 [(0, .ref (gad G 0)), (1, .int w)] := hl
  refine lv_iload_n hx hb d_Pc_count_0 rfl (lv_at hl 1 rfl) ?_
  refine lv_bipush (v := 10) hx hb d_Pc_count_1 (by decide) ?_
  refine lv_icmp_lt (tgt := 25) hx hb d_Pc_count_3 (by decide) (fun c3 => ?_) (fun c3 => ?_)
  · refine lv_iload_n hx hb d_Pc_count_25 rfl (lv_at hl 1 rfl) ?_
    refine lv_bipush (v := 20) hx hb d_Pc_count_26 (by decide) ?_
    refine lv_icmp_lt (tgt := 53) hx hb d_Pc_count_28 (by decide) (fun c28 => ?_) (fun c28 => ?_)
    · refine lv_iload_n hx hb d_Pc_count_53 rfl (lv_at hl 1 rfl) ?_
      by_cases c54_0 : w = 0
      · refine lv_tableIn (tgt := 96) hx hb d_Pc_count_54 (by rw [c54_0]; decide) (by rw [c54_0]; decide) (by rw [c54_0]; rfl) (by decide) ?_
        refine lv_aload_n hx hb d_Pc_count_96 rfl (lv_at hl 0 rfl) ?_
        refine va_get (D := gD G) (ci := 6) (v := .int (cI σ 0)) (C := R_Pc) (T := F_Pc) (N := 12) hx hb (wl_Pc hT) (fun _ h9 => h9) hown hK hP 0 rfl rfl 9 (by decide) (k_188 hT) (fun _ h9 => h9) rfl d_Pc_count_97 ?_
        exact end_i (u := σ) hx hb hr hlocks hS hP d_Pc_count_100 (⟨by simp [cntF, ix, c3, c28, c54_0], rfl⟩)
      by_cases c54_1 : w = 1
      · refine lv_tableIn (tgt := 101) hx hb d_Pc_count_54 (by rw [c54_1]; decide) (by rw [c54_1]; decide) (by rw [c54_1]; rfl) (by decide) ?_
        refine lv_aload_n hx hb d_Pc_count_101 rfl (lv_at hl 0 rfl) ?_
        refine va_get (D := gD G) (ci := 6) (v := .int (cI σ 1)) (C := R_Pc) (T := F_Pc) (N := 12) hx hb (wl_Pc hT) (fun _ h9 => h9) hown hK hP 0 rfl rfl 10 (by decide) (k_189 hT) (fun _ h9 => h9) rfl d_Pc_count_102 ?_
        refine lv_if_eq (tgt := 112) hx hb d_Pc_count_105 (by decide) (fun c105 => ?_) (fun c105 => ?_)
        · refine lv_iconst (v := 0) hx hb d_Pc_count_112 (by decide) ?_
          exact end_i (u := σ) hx hb hr hlocks hS hP d_Pc_count_113 (⟨by simp [cntF, ix, c3, c28, c54_0, c54_1, c105], rfl⟩)
        · refine lv_iconst (v := 1) hx hb d_Pc_count_108 (by decide) ?_
          refine lv_goto (tgt := 113) hx hb d_Pc_count_109 (by decide) ?_
          exact end_i (u := σ) hx hb hr hlocks hS hP d_Pc_count_113 (⟨by simp [cntF, ix, c3, c28, c54_0, c54_1, c105], rfl⟩)
      by_cases c54_2 : w = 2
      · refine lv_tableIn (tgt := 114) hx hb d_Pc_count_54 (by rw [c54_2]; decide) (by rw [c54_2]; decide) (by rw [c54_2]; rfl) (by decide) ?_
        refine lv_aload_n hx hb d_Pc_count_114 rfl (lv_at hl 0 rfl) ?_
        refine va_get (D := gD G) (ci := 6) (v := .int (cI σ 2)) (C := R_Pc) (T := F_Pc) (N := 12) hx hb (wl_Pc hT) (fun _ h9 => h9) hown hK hP 0 rfl rfl 11 (by decide) (k_190 hT) (fun _ h9 => h9) rfl d_Pc_count_115 ?_
        exact end_i (u := σ) hx hb hr hlocks hS hP d_Pc_count_118 (⟨by simp [cntF, ix, c3, c28, c54_0, c54_1, c54_2], rfl⟩)
      by_cases c54_3 : w = 3
      · refine lv_tableIn (tgt := 119) hx hb d_Pc_count_54 (by rw [c54_3]; decide) (by rw [c54_3]; decide) (by rw [c54_3]; rfl) (by decide) ?_
        refine lv_aload_n hx hb d_Pc_count_119 rfl (lv_at hl 0 rfl) ?_
        refine va_get (D := gD G) (ci := 6) (v := .ref (gad G 5)) (C := R_Pc) (T := F_Pc) (N := 12) hx hb (wl_Pc hT) (fun _ h9 => h9) hown hK hP 0 rfl rfl 4 (by decide) (k_183 hT) (fun _ h9 => h9) rfl d_Pc_count_120 ?_
        refine va_get (D := gD G) (ci := 0) (v := .int (cI σ 3)) (C := R_Ck) (T := F_Ck) (N := 5) hx hb (wl_Ck hT) (fun _ h9 => h9) hown hK hP 5 rfl rfl 1 (by decide) (k_37 hT) (fun _ h9 => h9) rfl d_Pc_count_123 ?_
        exact end_i (u := σ) hx hb hr hlocks hS hP d_Pc_count_126 (⟨by simp [cntF, ix, c3, c28, c54_0, c54_1, c54_2, c54_3], rfl⟩)
      by_cases c54_4 : w = 4
      · refine lv_tableIn (tgt := 127) hx hb d_Pc_count_54 (by rw [c54_4]; decide) (by rw [c54_4]; decide) (by rw [c54_4]; rfl) (by decide) ?_
        refine lv_aload_n hx hb d_Pc_count_127 rfl (lv_at hl 0 rfl) ?_
        refine va_get (D := gD G) (ci := 6) (v := .ref (gad G 7)) (C := R_Pc) (T := F_Pc) (N := 12) hx hb (wl_Pc hT) (fun _ h9 => h9) hown hK hP 0 rfl rfl 5 (by decide) (k_184 hT) (fun _ h9 => h9) rfl d_Pc_count_128 ?_
        refine va_get (D := gD G) (ci := 1) (v := .int (cI σ 7)) (C := R_Cc) (T := F_Cc) (N := 2) hx hb (wl_Cc hT) (fun _ h9 => h9) hown hK hP 7 rfl rfl 0 (by decide) (k_68 hT) (fun _ h9 => h9) rfl d_Pc_count_131 ?_
        exact end_i (u := σ) hx hb hr hlocks hS hP d_Pc_count_134 (⟨by simp [cntF, ix, c3, c28, c54_0, c54_1, c54_2, c54_3, c54_4], rfl⟩)
      by_cases c54_5 : w = 5
      · refine lv_tableIn (tgt := 135) hx hb d_Pc_count_54 (by rw [c54_5]; decide) (by rw [c54_5]; decide) (by rw [c54_5]; rfl) (by decide) ?_
        refine lv_aload_n hx hb d_Pc_count_135 rfl (lv_at hl 0 rfl) ?_
        refine va_get (D := gD G) (ci := 6) (v := .ref (gad G 9)) (C := R_Pc) (T := F_Pc) (N := 12) hx hb (wl_Pc hT) (fun _ h9 => h9) hown hK hP 0 rfl rfl 6 (by decide) (k_185 hT) (fun _ h9 => h9) rfl d_Pc_count_136 ?_
        refine va_get (D := gD G) (ci := 2) (v := .int (cI σ 8)) (C := R_Dc) (T := F_Dc) (N := 4) hx hb (wl_Dc hT) (fun _ h9 => h9) hown hK hP 9 rfl rfl 0 (by decide) (k_87 hT) (fun _ h9 => h9) rfl d_Pc_count_139 ?_
        exact end_i (u := σ) hx hb hr hlocks hS hP d_Pc_count_142 (⟨by simp [cntF, ix, c3, c28, c54_0, c54_1, c54_2, c54_3, c54_4, c54_5], rfl⟩)
      by_cases c54_6 : w = 6
      · refine lv_tableIn (tgt := 143) hx hb d_Pc_count_54 (by rw [c54_6]; decide) (by rw [c54_6]; decide) (by rw [c54_6]; rfl) (by decide) ?_
        refine lv_aload_n hx hb d_Pc_count_143 rfl (lv_at hl 0 rfl) ?_
        refine va_get (D := gD G) (ci := 6) (v := .ref (gad G 12)) (C := R_Pc) (T := F_Pc) (N := 12) hx hb (wl_Pc hT) (fun _ h9 => h9) hown hK hP 0 rfl rfl 7 (by decide) (k_186 hT) (fun _ h9 => h9) rfl d_Pc_count_144 ?_
        refine va_get (D := gD G) (ci := 4) (v := .int (cI σ 10)) (C := R_Pr) (T := F_Pr) (N := 2) hx hb (wl_Pr hT) (fun _ h9 => h9) hown hK hP 12 rfl rfl 0 (by decide) (k_112 hT) (fun _ h9 => h9) rfl d_Pc_count_147 ?_
        exact end_i (u := σ) hx hb hr hlocks hS hP d_Pc_count_150 (⟨by simp [cntF, ix, c3, c28, c54_0, c54_1, c54_2, c54_3, c54_4, c54_5, c54_6], rfl⟩)
      refine lv_tableOut (tgt := 151) hx hb d_Pc_count_54 (tsw_out (n := 7) (l := [0, 1, 2, 3, 4, 5, 6]) (by decide) (by decide) (by simp [c54_0, c54_1, c54_2, c54_3, c54_4, c54_5, c54_6])) (by decide) ?_
      refine lv_bipush (v := (-2)) hx hb d_Pc_count_151 (by decide) ?_
      exact end_i (u := σ) hx hb hr hlocks hS hP d_Pc_count_153 (⟨by simp [cntF, ix, c3, c28, c54_0, c54_1, c54_2, c54_3, c54_4, c54_5, c54_6], rfl⟩)
    · refine lv_iload_n hx hb d_Pc_count_31 rfl (lv_at hl 1 rfl) ?_
      refine lv_bipush (v := 24) hx hb d_Pc_count_32 (by decide) ?_
      refine lv_icmp_ge (tgt := 53) hx hb d_Pc_count_34 (by decide) (fun c34 => ?_) (fun c34 => ?_)
      · refine lv_iload_n hx hb d_Pc_count_53 rfl (lv_at hl 1 rfl) ?_
        by_cases c54_0 : w = 0
        · refine lv_tableIn (tgt := 96) hx hb d_Pc_count_54 (by rw [c54_0]; decide) (by rw [c54_0]; decide) (by rw [c54_0]; rfl) (by decide) ?_
          refine lv_aload_n hx hb d_Pc_count_96 rfl (lv_at hl 0 rfl) ?_
          refine va_get (D := gD G) (ci := 6) (v := .int (cI σ 0)) (C := R_Pc) (T := F_Pc) (N := 12) hx hb (wl_Pc hT) (fun _ h9 => h9) hown hK hP 0 rfl rfl 9 (by decide) (k_188 hT) (fun _ h9 => h9) rfl d_Pc_count_97 ?_
          exact end_i (u := σ) hx hb hr hlocks hS hP d_Pc_count_100 (⟨by simp [cntF, ix, c3, c28, c34, c54_0], rfl⟩)
        by_cases c54_1 : w = 1
        · refine lv_tableIn (tgt := 101) hx hb d_Pc_count_54 (by rw [c54_1]; decide) (by rw [c54_1]; decide) (by rw [c54_1]; rfl) (by decide) ?_
          refine lv_aload_n hx hb d_Pc_count_101 rfl (lv_at hl 0 rfl) ?_
          refine va_get (D := gD G) (ci := 6) (v := .int (cI σ 1)) (C := R_Pc) (T := F_Pc) (N := 12) hx hb (wl_Pc hT) (fun _ h9 => h9) hown hK hP 0 rfl rfl 10 (by decide) (k_189 hT) (fun _ h9 => h9) rfl d_Pc_count_102 ?_
          refine lv_if_eq (tgt := 112) hx hb d_Pc_count_105 (by decide) (fun c105 => ?_) (fun c105 => ?_)
          · refine lv_iconst (v := 0) hx hb d_Pc_count_112 (by decide) ?_
            exact end_i (u := σ) hx hb hr hlocks hS hP d_Pc_count_113 (⟨by simp [cntF, ix, c3, c28, c34, c54_0, c54_1, c105], rfl⟩)
          · refine lv_iconst (v := 1) hx hb d_Pc_count_108 (by decide) ?_
            refine lv_goto (tgt := 113) hx hb d_Pc_count_109 (by decide) ?_
            exact end_i (u := σ) hx hb hr hlocks hS hP d_Pc_count_113 (⟨by simp [cntF, ix, c3, c28, c34, c54_0, c54_1, c105], rfl⟩)
        by_cases c54_2 : w = 2
        · refine lv_tableIn (tgt := 114) hx hb d_Pc_count_54 (by rw [c54_2]; decide) (by rw [c54_2]; decide) (by rw [c54_2]; rfl) (by decide) ?_
          refine lv_aload_n hx hb d_Pc_count_114 rfl (lv_at hl 0 rfl) ?_
          refine va_get (D := gD G) (ci := 6) (v := .int (cI σ 2)) (C := R_Pc) (T := F_Pc) (N := 12) hx hb (wl_Pc hT) (fun _ h9 => h9) hown hK hP 0 rfl rfl 11 (by decide) (k_190 hT) (fun _ h9 => h9) rfl d_Pc_count_115 ?_
          exact end_i (u := σ) hx hb hr hlocks hS hP d_Pc_count_118 (⟨by simp [cntF, ix, c3, c28, c34, c54_0, c54_1, c54_2], rfl⟩)
        by_cases c54_3 : w = 3
        · refine lv_tableIn (tgt := 119) hx hb d_Pc_count_54 (by rw [c54_3]; decide) (by rw [c54_3]; decide) (by rw [c54_3]; rfl) (by decide) ?_
          refine lv_aload_n hx hb d_Pc_count_119 rfl (lv_at hl 0 rfl) ?_
          refine va_get (D := gD G) (ci := 6) (v := .ref (gad G 5)) (C := R_Pc) (T := F_Pc) (N := 12) hx hb (wl_Pc hT) (fun _ h9 => h9) hown hK hP 0 rfl rfl 4 (by decide) (k_183 hT) (fun _ h9 => h9) rfl d_Pc_count_120 ?_
          refine va_get (D := gD G) (ci := 0) (v := .int (cI σ 3)) (C := R_Ck) (T := F_Ck) (N := 5) hx hb (wl_Ck hT) (fun _ h9 => h9) hown hK hP 5 rfl rfl 1 (by decide) (k_37 hT) (fun _ h9 => h9) rfl d_Pc_count_123 ?_
          exact end_i (u := σ) hx hb hr hlocks hS hP d_Pc_count_126 (⟨by simp [cntF, ix, c3, c28, c34, c54_0, c54_1, c54_2, c54_3], rfl⟩)
        by_cases c54_4 : w = 4
        · refine lv_tableIn (tgt := 127) hx hb d_Pc_count_54 (by rw [c54_4]; decide) (by rw [c54_4]; decide) (by rw [c54_4]; rfl) (by decide) ?_
          refine lv_aload_n hx hb d_Pc_count_127 rfl (lv_at hl 0 rfl) ?_
          refine va_get (D := gD G) (ci := 6) (v := .ref (gad G 7)) (C := R_Pc) (T := F_Pc) (N := 12) hx hb (wl_Pc hT) (fun _ h9 => h9) hown hK hP 0 rfl rfl 5 (by decide) (k_184 hT) (fun _ h9 => h9) rfl d_Pc_count_128 ?_
          refine va_get (D := gD G) (ci := 1) (v := .int (cI σ 7)) (C := R_Cc) (T := F_Cc) (N := 2) hx hb (wl_Cc hT) (fun _ h9 => h9) hown hK hP 7 rfl rfl 0 (by decide) (k_68 hT) (fun _ h9 => h9) rfl d_Pc_count_131 ?_
          exact end_i (u := σ) hx hb hr hlocks hS hP d_Pc_count_134 (⟨by simp [cntF, ix, c3, c28, c34, c54_0, c54_1, c54_2, c54_3, c54_4], rfl⟩)
        by_cases c54_5 : w = 5
        · refine lv_tableIn (tgt := 135) hx hb d_Pc_count_54 (by rw [c54_5]; decide) (by rw [c54_5]; decide) (by rw [c54_5]; rfl) (by decide) ?_
          refine lv_aload_n hx hb d_Pc_count_135 rfl (lv_at hl 0 rfl) ?_
          refine va_get (D := gD G) (ci := 6) (v := .ref (gad G 9)) (C := R_Pc) (T := F_Pc) (N := 12) hx hb (wl_Pc hT) (fun _ h9 => h9) hown hK hP 0 rfl rfl 6 (by decide) (k_185 hT) (fun _ h9 => h9) rfl d_Pc_count_136 ?_
          refine va_get (D := gD G) (ci := 2) (v := .int (cI σ 8)) (C := R_Dc) (T := F_Dc) (N := 4) hx hb (wl_Dc hT) (fun _ h9 => h9) hown hK hP 9 rfl rfl 0 (by decide) (k_87 hT) (fun _ h9 => h9) rfl d_Pc_count_139 ?_
          exact end_i (u := σ) hx hb hr hlocks hS hP d_Pc_count_142 (⟨by simp [cntF, ix, c3, c28, c34, c54_0, c54_1, c54_2, c54_3, c54_4, c54_5], rfl⟩)
        by_cases c54_6 : w = 6
        · refine lv_tableIn (tgt := 143) hx hb d_Pc_count_54 (by rw [c54_6]; decide) (by rw [c54_6]; decide) (by rw [c54_6]; rfl) (by decide) ?_
          refine lv_aload_n hx hb d_Pc_count_143 rfl (lv_at hl 0 rfl) ?_
          refine va_get (D := gD G) (ci := 6) (v := .ref (gad G 12)) (C := R_Pc) (T := F_Pc) (N := 12) hx hb (wl_Pc hT) (fun _ h9 => h9) hown hK hP 0 rfl rfl 7 (by decide) (k_186 hT) (fun _ h9 => h9) rfl d_Pc_count_144 ?_
          refine va_get (D := gD G) (ci := 4) (v := .int (cI σ 10)) (C := R_Pr) (T := F_Pr) (N := 2) hx hb (wl_Pr hT) (fun _ h9 => h9) hown hK hP 12 rfl rfl 0 (by decide) (k_112 hT) (fun _ h9 => h9) rfl d_Pc_count_147 ?_
          exact end_i (u := σ) hx hb hr hlocks hS hP d_Pc_count_150 (⟨by simp [cntF, ix, c3, c28, c34, c54_0, c54_1, c54_2, c54_3, c54_4, c54_5, c54_6], rfl⟩)
        refine lv_tableOut (tgt := 151) hx hb d_Pc_count_54 (tsw_out (n := 7) (l := [0, 1, 2, 3, 4, 5, 6]) (by decide) (by decide) (by simp [c54_0, c54_1, c54_2, c54_3, c54_4, c54_5, c54_6])) (by decide) ?_
        refine lv_bipush (v := (-2)) hx hb d_Pc_count_151 (by decide) ?_
        exact end_i (u := σ) hx hb hr hlocks hS hP d_Pc_count_153 (⟨by simp [cntF, ix, c3, c28, c34, c54_0, c54_1, c54_2, c54_3, c54_4, c54_5, c54_6], rfl⟩)
      · refine lv_aload_n hx hb d_Pc_count_37 rfl (lv_at hl 0 rfl) ?_
        refine va_get (D := gD G) (ci := 6) (v := .ref (gad G 5)) (C := R_Pc) (T := F_Pc) (N := 12) hx hb (wl_Pc hT) (fun _ h9 => h9) hown hK hP 0 rfl rfl 4 (by decide) (k_183 hT) (fun _ h9 => h9) rfl d_Pc_count_38 ?_
        refine va_get (D := gD G) (ci := 0) (v := .ref (gad G 6)) (C := R_Ck) (T := F_Ck) (N := 5) hx hb (wl_Ck hT) (fun _ h9 => h9) hown hK hP 5 rfl rfl 0 (by decide) (k_35 hT) (fun _ h9 => h9) rfl d_Pc_count_41 ?_
        refine lv_bipush (v := 8) hx hb d_Pc_count_44 (by decide) ?_
        refine lv_iload_n hx hb d_Pc_count_46 rfl (lv_at hl 1 rfl) ?_
        refine lv_iadd hx hb d_Pc_count_47 ?_
        refine lv_bipush (v := 20) hx hb d_Pc_count_48 (by decide) ?_
        refine lv_isub hx hb d_Pc_count_50 ?_
        refine va_iald (f := (cJ σ 1)) hx hb hK hP 6 0 rfl rfl (cnt2 c28 c34) d_Pc_count_51 ?_
        exact end_i (u := σ) hx hb hr hlocks hS hP d_Pc_count_52 (⟨by simp [cntF, ix, c3, c28, c34], rfl⟩)
  · refine lv_iload_n hx hb d_Pc_count_6 rfl (lv_at hl 1 rfl) ?_
    refine lv_bipush (v := 18) hx hb d_Pc_count_7 (by decide) ?_
    refine lv_icmp_ge (tgt := 25) hx hb d_Pc_count_9 (by decide) (fun c9 => ?_) (fun c9 => ?_)
    · refine lv_iload_n hx hb d_Pc_count_25 rfl (lv_at hl 1 rfl) ?_
      refine lv_bipush (v := 20) hx hb d_Pc_count_26 (by decide) ?_
      refine lv_icmp_lt (tgt := 53) hx hb d_Pc_count_28 (by decide) (fun c28 => ?_) (fun c28 => ?_)
      · refine lv_iload_n hx hb d_Pc_count_53 rfl (lv_at hl 1 rfl) ?_
        by_cases c54_0 : w = 0
        · refine lv_tableIn (tgt := 96) hx hb d_Pc_count_54 (by rw [c54_0]; decide) (by rw [c54_0]; decide) (by rw [c54_0]; rfl) (by decide) ?_
          refine lv_aload_n hx hb d_Pc_count_96 rfl (lv_at hl 0 rfl) ?_
          refine va_get (D := gD G) (ci := 6) (v := .int (cI σ 0)) (C := R_Pc) (T := F_Pc) (N := 12) hx hb (wl_Pc hT) (fun _ h9 => h9) hown hK hP 0 rfl rfl 9 (by decide) (k_188 hT) (fun _ h9 => h9) rfl d_Pc_count_97 ?_
          exact end_i (u := σ) hx hb hr hlocks hS hP d_Pc_count_100 (⟨by simp [cntF, ix, c3, c9, c28, c54_0], rfl⟩)
        by_cases c54_1 : w = 1
        · refine lv_tableIn (tgt := 101) hx hb d_Pc_count_54 (by rw [c54_1]; decide) (by rw [c54_1]; decide) (by rw [c54_1]; rfl) (by decide) ?_
          refine lv_aload_n hx hb d_Pc_count_101 rfl (lv_at hl 0 rfl) ?_
          refine va_get (D := gD G) (ci := 6) (v := .int (cI σ 1)) (C := R_Pc) (T := F_Pc) (N := 12) hx hb (wl_Pc hT) (fun _ h9 => h9) hown hK hP 0 rfl rfl 10 (by decide) (k_189 hT) (fun _ h9 => h9) rfl d_Pc_count_102 ?_
          refine lv_if_eq (tgt := 112) hx hb d_Pc_count_105 (by decide) (fun c105 => ?_) (fun c105 => ?_)
          · refine lv_iconst (v := 0) hx hb d_Pc_count_112 (by decide) ?_
            exact end_i (u := σ) hx hb hr hlocks hS hP d_Pc_count_113 (⟨by simp [cntF, ix, c3, c9, c28, c54_0, c54_1, c105], rfl⟩)
          · refine lv_iconst (v := 1) hx hb d_Pc_count_108 (by decide) ?_
            refine lv_goto (tgt := 113) hx hb d_Pc_count_109 (by decide) ?_
            exact end_i (u := σ) hx hb hr hlocks hS hP d_Pc_count_113 (⟨by simp [cntF, ix, c3, c9, c28, c54_0, c54_1, c105], rfl⟩)
        by_cases c54_2 : w = 2
        · refine lv_tableIn (tgt := 114) hx hb d_Pc_count_54 (by rw [c54_2]; decide) (by rw [c54_2]; decide) (by rw [c54_2]; rfl) (by decide) ?_
          refine lv_aload_n hx hb d_Pc_count_114 rfl (lv_at hl 0 rfl) ?_
          refine va_get (D := gD G) (ci := 6) (v := .int (cI σ 2)) (C := R_Pc) (T := F_Pc) (N := 12) hx hb (wl_Pc hT) (fun _ h9 => h9) hown hK hP 0 rfl rfl 11 (by decide) (k_190 hT) (fun _ h9 => h9) rfl d_Pc_count_115 ?_
          exact end_i (u := σ) hx hb hr hlocks hS hP d_Pc_count_118 (⟨by simp [cntF, ix, c3, c9, c28, c54_0, c54_1, c54_2], rfl⟩)
        by_cases c54_3 : w = 3
        · refine lv_tableIn (tgt := 119) hx hb d_Pc_count_54 (by rw [c54_3]; decide) (by rw [c54_3]; decide) (by rw [c54_3]; rfl) (by decide) ?_
          refine lv_aload_n hx hb d_Pc_count_119 rfl (lv_at hl 0 rfl) ?_
          refine va_get (D := gD G) (ci := 6) (v := .ref (gad G 5)) (C := R_Pc) (T := F_Pc) (N := 12) hx hb (wl_Pc hT) (fun _ h9 => h9) hown hK hP 0 rfl rfl 4 (by decide) (k_183 hT) (fun _ h9 => h9) rfl d_Pc_count_120 ?_
          refine va_get (D := gD G) (ci := 0) (v := .int (cI σ 3)) (C := R_Ck) (T := F_Ck) (N := 5) hx hb (wl_Ck hT) (fun _ h9 => h9) hown hK hP 5 rfl rfl 1 (by decide) (k_37 hT) (fun _ h9 => h9) rfl d_Pc_count_123 ?_
          exact end_i (u := σ) hx hb hr hlocks hS hP d_Pc_count_126 (⟨by simp [cntF, ix, c3, c9, c28, c54_0, c54_1, c54_2, c54_3], rfl⟩)
        by_cases c54_4 : w = 4
        · refine lv_tableIn (tgt := 127) hx hb d_Pc_count_54 (by rw [c54_4]; decide) (by rw [c54_4]; decide) (by rw [c54_4]; rfl) (by decide) ?_
          refine lv_aload_n hx hb d_Pc_count_127 rfl (lv_at hl 0 rfl) ?_
          refine va_get (D := gD G) (ci := 6) (v := .ref (gad G 7)) (C := R_Pc) (T := F_Pc) (N := 12) hx hb (wl_Pc hT) (fun _ h9 => h9) hown hK hP 0 rfl rfl 5 (by decide) (k_184 hT) (fun _ h9 => h9) rfl d_Pc_count_128 ?_
          refine va_get (D := gD G) (ci := 1) (v := .int (cI σ 7)) (C := R_Cc) (T := F_Cc) (N := 2) hx hb (wl_Cc hT) (fun _ h9 => h9) hown hK hP 7 rfl rfl 0 (by decide) (k_68 hT) (fun _ h9 => h9) rfl d_Pc_count_131 ?_
          exact end_i (u := σ) hx hb hr hlocks hS hP d_Pc_count_134 (⟨by simp [cntF, ix, c3, c9, c28, c54_0, c54_1, c54_2, c54_3, c54_4], rfl⟩)
        by_cases c54_5 : w = 5
        · refine lv_tableIn (tgt := 135) hx hb d_Pc_count_54 (by rw [c54_5]; decide) (by rw [c54_5]; decide) (by rw [c54_5]; rfl) (by decide) ?_
          refine lv_aload_n hx hb d_Pc_count_135 rfl (lv_at hl 0 rfl) ?_
          refine va_get (D := gD G) (ci := 6) (v := .ref (gad G 9)) (C := R_Pc) (T := F_Pc) (N := 12) hx hb (wl_Pc hT) (fun _ h9 => h9) hown hK hP 0 rfl rfl 6 (by decide) (k_185 hT) (fun _ h9 => h9) rfl d_Pc_count_136 ?_
          refine va_get (D := gD G) (ci := 2) (v := .int (cI σ 8)) (C := R_Dc) (T := F_Dc) (N := 4) hx hb (wl_Dc hT) (fun _ h9 => h9) hown hK hP 9 rfl rfl 0 (by decide) (k_87 hT) (fun _ h9 => h9) rfl d_Pc_count_139 ?_
          exact end_i (u := σ) hx hb hr hlocks hS hP d_Pc_count_142 (⟨by simp [cntF, ix, c3, c9, c28, c54_0, c54_1, c54_2, c54_3, c54_4, c54_5], rfl⟩)
        by_cases c54_6 : w = 6
        · refine lv_tableIn (tgt := 143) hx hb d_Pc_count_54 (by rw [c54_6]; decide) (by rw [c54_6]; decide) (by rw [c54_6]; rfl) (by decide) ?_
          refine lv_aload_n hx hb d_Pc_count_143 rfl (lv_at hl 0 rfl) ?_
          refine va_get (D := gD G) (ci := 6) (v := .ref (gad G 12)) (C := R_Pc) (T := F_Pc) (N := 12) hx hb (wl_Pc hT) (fun _ h9 => h9) hown hK hP 0 rfl rfl 7 (by decide) (k_186 hT) (fun _ h9 => h9) rfl d_Pc_count_144 ?_
          refine va_get (D := gD G) (ci := 4) (v := .int (cI σ 10)) (C := R_Pr) (T := F_Pr) (N := 2) hx hb (wl_Pr hT) (fun _ h9 => h9) hown hK hP 12 rfl rfl 0 (by decide) (k_112 hT) (fun _ h9 => h9) rfl d_Pc_count_147 ?_
          exact end_i (u := σ) hx hb hr hlocks hS hP d_Pc_count_150 (⟨by simp [cntF, ix, c3, c9, c28, c54_0, c54_1, c54_2, c54_3, c54_4, c54_5, c54_6], rfl⟩)
        refine lv_tableOut (tgt := 151) hx hb d_Pc_count_54 (tsw_out (n := 7) (l := [0, 1, 2, 3, 4, 5, 6]) (by decide) (by decide) (by simp [c54_0, c54_1, c54_2, c54_3, c54_4, c54_5, c54_6])) (by decide) ?_
        refine lv_bipush (v := (-2)) hx hb d_Pc_count_151 (by decide) ?_
        exact end_i (u := σ) hx hb hr hlocks hS hP d_Pc_count_153 (⟨by simp [cntF, ix, c3, c9, c28, c54_0, c54_1, c54_2, c54_3, c54_4, c54_5, c54_6], rfl⟩)
      · refine lv_iload_n hx hb d_Pc_count_31 rfl (lv_at hl 1 rfl) ?_
        refine lv_bipush (v := 24) hx hb d_Pc_count_32 (by decide) ?_
        refine lv_icmp_ge (tgt := 53) hx hb d_Pc_count_34 (by decide) (fun c34 => ?_) (fun c34 => ?_)
        · refine lv_iload_n hx hb d_Pc_count_53 rfl (lv_at hl 1 rfl) ?_
          by_cases c54_0 : w = 0
          · refine lv_tableIn (tgt := 96) hx hb d_Pc_count_54 (by rw [c54_0]; decide) (by rw [c54_0]; decide) (by rw [c54_0]; rfl) (by decide) ?_
            refine lv_aload_n hx hb d_Pc_count_96 rfl (lv_at hl 0 rfl) ?_
            refine va_get (D := gD G) (ci := 6) (v := .int (cI σ 0)) (C := R_Pc) (T := F_Pc) (N := 12) hx hb (wl_Pc hT) (fun _ h9 => h9) hown hK hP 0 rfl rfl 9 (by decide) (k_188 hT) (fun _ h9 => h9) rfl d_Pc_count_97 ?_
            exact end_i (u := σ) hx hb hr hlocks hS hP d_Pc_count_100 (⟨by simp [cntF, ix, c3, c9, c28, c34, c54_0], rfl⟩)
          by_cases c54_1 : w = 1
          · refine lv_tableIn (tgt := 101) hx hb d_Pc_count_54 (by rw [c54_1]; decide) (by rw [c54_1]; decide) (by rw [c54_1]; rfl) (by decide) ?_
            refine lv_aload_n hx hb d_Pc_count_101 rfl (lv_at hl 0 rfl) ?_
            refine va_get (D := gD G) (ci := 6) (v := .int (cI σ 1)) (C := R_Pc) (T := F_Pc) (N := 12) hx hb (wl_Pc hT) (fun _ h9 => h9) hown hK hP 0 rfl rfl 10 (by decide) (k_189 hT) (fun _ h9 => h9) rfl d_Pc_count_102 ?_
            refine lv_if_eq (tgt := 112) hx hb d_Pc_count_105 (by decide) (fun c105 => ?_) (fun c105 => ?_)
            · refine lv_iconst (v := 0) hx hb d_Pc_count_112 (by decide) ?_
              exact end_i (u := σ) hx hb hr hlocks hS hP d_Pc_count_113 (⟨by simp [cntF, ix, c3, c9, c28, c34, c54_0, c54_1, c105], rfl⟩)
            · refine lv_iconst (v := 1) hx hb d_Pc_count_108 (by decide) ?_
              refine lv_goto (tgt := 113) hx hb d_Pc_count_109 (by decide) ?_
              exact end_i (u := σ) hx hb hr hlocks hS hP d_Pc_count_113 (⟨by simp [cntF, ix, c3, c9, c28, c34, c54_0, c54_1, c105], rfl⟩)
          by_cases c54_2 : w = 2
          · refine lv_tableIn (tgt := 114) hx hb d_Pc_count_54 (by rw [c54_2]; decide) (by rw [c54_2]; decide) (by rw [c54_2]; rfl) (by decide) ?_
            refine lv_aload_n hx hb d_Pc_count_114 rfl (lv_at hl 0 rfl) ?_
            refine va_get (D := gD G) (ci := 6) (v := .int (cI σ 2)) (C := R_Pc) (T := F_Pc) (N := 12) hx hb (wl_Pc hT) (fun _ h9 => h9) hown hK hP 0 rfl rfl 11 (by decide) (k_190 hT) (fun _ h9 => h9) rfl d_Pc_count_115 ?_
            exact end_i (u := σ) hx hb hr hlocks hS hP d_Pc_count_118 (⟨by simp [cntF, ix, c3, c9, c28, c34, c54_0, c54_1, c54_2], rfl⟩)
          by_cases c54_3 : w = 3
          · refine lv_tableIn (tgt := 119) hx hb d_Pc_count_54 (by rw [c54_3]; decide) (by rw [c54_3]; decide) (by rw [c54_3]; rfl) (by decide) ?_
            refine lv_aload_n hx hb d_Pc_count_119 rfl (lv_at hl 0 rfl) ?_
            refine va_get (D := gD G) (ci := 6) (v := .ref (gad G 5)) (C := R_Pc) (T := F_Pc) (N := 12) hx hb (wl_Pc hT) (fun _ h9 => h9) hown hK hP 0 rfl rfl 4 (by decide) (k_183 hT) (fun _ h9 => h9) rfl d_Pc_count_120 ?_
            refine va_get (D := gD G) (ci := 0) (v := .int (cI σ 3)) (C := R_Ck) (T := F_Ck) (N := 5) hx hb (wl_Ck hT) (fun _ h9 => h9) hown hK hP 5 rfl rfl 1 (by decide) (k_37 hT) (fun _ h9 => h9) rfl d_Pc_count_123 ?_
            exact end_i (u := σ) hx hb hr hlocks hS hP d_Pc_count_126 (⟨by simp [cntF, ix, c3, c9, c28, c34, c54_0, c54_1, c54_2, c54_3], rfl⟩)
          by_cases c54_4 : w = 4
          · refine lv_tableIn (tgt := 127) hx hb d_Pc_count_54 (by rw [c54_4]; decide) (by rw [c54_4]; decide) (by rw [c54_4]; rfl) (by decide) ?_
            refine lv_aload_n hx hb d_Pc_count_127 rfl (lv_at hl 0 rfl) ?_
            refine va_get (D := gD G) (ci := 6) (v := .ref (gad G 7)) (C := R_Pc) (T := F_Pc) (N := 12) hx hb (wl_Pc hT) (fun _ h9 => h9) hown hK hP 0 rfl rfl 5 (by decide) (k_184 hT) (fun _ h9 => h9) rfl d_Pc_count_128 ?_
            refine va_get (D := gD G) (ci := 1) (v := .int (cI σ 7)) (C := R_Cc) (T := F_Cc) (N := 2) hx hb (wl_Cc hT) (fun _ h9 => h9) hown hK hP 7 rfl rfl 0 (by decide) (k_68 hT) (fun _ h9 => h9) rfl d_Pc_count_131 ?_
            exact end_i (u := σ) hx hb hr hlocks hS hP d_Pc_count_134 (⟨by simp [cntF, ix, c3, c9, c28, c34, c54_0, c54_1, c54_2, c54_3, c54_4], rfl⟩)
          by_cases c54_5 : w = 5
          · refine lv_tableIn (tgt := 135) hx hb d_Pc_count_54 (by rw [c54_5]; decide) (by rw [c54_5]; decide) (by rw [c54_5]; rfl) (by decide) ?_
            refine lv_aload_n hx hb d_Pc_count_135 rfl (lv_at hl 0 rfl) ?_
            refine va_get (D := gD G) (ci := 6) (v := .ref (gad G 9)) (C := R_Pc) (T := F_Pc) (N := 12) hx hb (wl_Pc hT) (fun _ h9 => h9) hown hK hP 0 rfl rfl 6 (by decide) (k_185 hT) (fun _ h9 => h9) rfl d_Pc_count_136 ?_
            refine va_get (D := gD G) (ci := 2) (v := .int (cI σ 8)) (C := R_Dc) (T := F_Dc) (N := 4) hx hb (wl_Dc hT) (fun _ h9 => h9) hown hK hP 9 rfl rfl 0 (by decide) (k_87 hT) (fun _ h9 => h9) rfl d_Pc_count_139 ?_
            exact end_i (u := σ) hx hb hr hlocks hS hP d_Pc_count_142 (⟨by simp [cntF, ix, c3, c9, c28, c34, c54_0, c54_1, c54_2, c54_3, c54_4, c54_5], rfl⟩)
          by_cases c54_6 : w = 6
          · refine lv_tableIn (tgt := 143) hx hb d_Pc_count_54 (by rw [c54_6]; decide) (by rw [c54_6]; decide) (by rw [c54_6]; rfl) (by decide) ?_
            refine lv_aload_n hx hb d_Pc_count_143 rfl (lv_at hl 0 rfl) ?_
            refine va_get (D := gD G) (ci := 6) (v := .ref (gad G 12)) (C := R_Pc) (T := F_Pc) (N := 12) hx hb (wl_Pc hT) (fun _ h9 => h9) hown hK hP 0 rfl rfl 7 (by decide) (k_186 hT) (fun _ h9 => h9) rfl d_Pc_count_144 ?_
            refine va_get (D := gD G) (ci := 4) (v := .int (cI σ 10)) (C := R_Pr) (T := F_Pr) (N := 2) hx hb (wl_Pr hT) (fun _ h9 => h9) hown hK hP 12 rfl rfl 0 (by decide) (k_112 hT) (fun _ h9 => h9) rfl d_Pc_count_147 ?_
            exact end_i (u := σ) hx hb hr hlocks hS hP d_Pc_count_150 (⟨by simp [cntF, ix, c3, c9, c28, c34, c54_0, c54_1, c54_2, c54_3, c54_4, c54_5, c54_6], rfl⟩)
          refine lv_tableOut (tgt := 151) hx hb d_Pc_count_54 (tsw_out (n := 7) (l := [0, 1, 2, 3, 4, 5, 6]) (by decide) (by decide) (by simp [c54_0, c54_1, c54_2, c54_3, c54_4, c54_5, c54_6])) (by decide) ?_
          refine lv_bipush (v := (-2)) hx hb d_Pc_count_151 (by decide) ?_
          exact end_i (u := σ) hx hb hr hlocks hS hP d_Pc_count_153 (⟨by simp [cntF, ix, c3, c9, c28, c34, c54_0, c54_1, c54_2, c54_3, c54_4, c54_5, c54_6], rfl⟩)
        · refine lv_aload_n hx hb d_Pc_count_37 rfl (lv_at hl 0 rfl) ?_
          refine va_get (D := gD G) (ci := 6) (v := .ref (gad G 5)) (C := R_Pc) (T := F_Pc) (N := 12) hx hb (wl_Pc hT) (fun _ h9 => h9) hown hK hP 0 rfl rfl 4 (by decide) (k_183 hT) (fun _ h9 => h9) rfl d_Pc_count_38 ?_
          refine va_get (D := gD G) (ci := 0) (v := .ref (gad G 6)) (C := R_Ck) (T := F_Ck) (N := 5) hx hb (wl_Ck hT) (fun _ h9 => h9) hown hK hP 5 rfl rfl 0 (by decide) (k_35 hT) (fun _ h9 => h9) rfl d_Pc_count_41 ?_
          refine lv_bipush (v := 8) hx hb d_Pc_count_44 (by decide) ?_
          refine lv_iload_n hx hb d_Pc_count_46 rfl (lv_at hl 1 rfl) ?_
          refine lv_iadd hx hb d_Pc_count_47 ?_
          refine lv_bipush (v := 20) hx hb d_Pc_count_48 (by decide) ?_
          refine lv_isub hx hb d_Pc_count_50 ?_
          refine va_iald (f := (cJ σ 1)) hx hb hK hP 6 0 rfl rfl (cnt2 c28 c34) d_Pc_count_51 ?_
          exact end_i (u := σ) hx hb hr hlocks hS hP d_Pc_count_52 (⟨by simp [cntF, ix, c3, c9, c28, c34], rfl⟩)
    · refine lv_aload_n hx hb d_Pc_count_12 rfl (lv_at hl 0 rfl) ?_
      refine va_get (D := gD G) (ci := 6) (v := .ref (gad G 5)) (C := R_Pc) (T := F_Pc) (N := 12) hx hb (wl_Pc hT) (fun _ h9 => h9) hown hK hP 0 rfl rfl 4 (by decide) (k_183 hT) (fun _ h9 => h9) rfl d_Pc_count_13 ?_
      refine va_get (D := gD G) (ci := 0) (v := .ref (gad G 6)) (C := R_Ck) (T := F_Ck) (N := 5) hx hb (wl_Ck hT) (fun _ h9 => h9) hown hK hP 5 rfl rfl 0 (by decide) (k_35 hT) (fun _ h9 => h9) rfl d_Pc_count_16 ?_
      refine lv_iload_n hx hb d_Pc_count_19 rfl (lv_at hl 1 rfl) ?_
      refine lv_bipush (v := 10) hx hb d_Pc_count_20 (by decide) ?_
      refine lv_isub hx hb d_Pc_count_22 ?_
      refine va_iald (f := (cJ σ 1)) hx hb hK hP 6 0 rfl rfl (cnt1 c3 c9) d_Pc_count_23 ?_
      exact end_i (u := σ) hx hb hr hlocks hS hP d_Pc_count_24 (⟨by simp [cntF, ix, c3, c9], rfl⟩)

set_option maxHeartbeats 4000000 in
set_option maxRecDepth 100000 in
theorem K_Pc_code {l : Launch} {G : GT} (g : GOK l G) (σ : CS) (i o d a b n : Int32) (wf : Wf σ) : cx_M l y_Pc_code (.code y_Pc_code b_Pc_code 7 none) 7 110 (gA G) [.ref (gad G 0), .int i, .int o, .int d, .int a, .int b, .int n] (Cw G σ) (Rv G (fun u => badC i o d a b = false ∧ u = sQ σ (cP σ 0 (ix i)) (becQ o d a b n))) (Tw G (fun E u => E = "java/lang/IllegalArgumentException" ∧ badC i o d a b = true ∧ u = σ)) := by
  refine cx_of (by decide +kernel) ?_
  intro p e s m below meth c s₁ B hml ht hc
  have hx := B.exec
  have hb := B.bytes
  have hr := B.returns
  have hown : s.vm.findClass R_Pc = some m.cls := findClass_of_methodNamed B.named
  have hlocks := B.notSynchronized
  have hT := g.tb hc
  have hK := g.k hc
  have hD := g.d (σ := σ)
  have hS : va_S (gA G) s.heap s.heap [] := va_S.rf
  have hP := hc.2.2
  have hl := lv_entry ([.ref (gad G 0), .int i, .int o, .int d, .int a, .int b, .int n]) (n := 7) (Nat.le_of_ble_eq_true rfl)
  rw [lg_entry_eq]
  generalize (lg_sl ([.ref (gad G 0), .int i, .int o, .int d, .int a, .int b, .int n]) ++ List.replicate (7 - (lg_sl ([.ref (gad G 0), .int i, .int o, .int d, .int a, .int b, .int n])).length) Slot.unset).toArray = ls at hl ⊢
  have hl : lv_has ls 7 [(0, .ref (gad G 0)), (1, .int i), (2, .int o), (3, .int d), (4, .int a), (5, .int b), (6, .int n)] := hl
  refine lv_iload_n hx hb d_Pc_code_0 rfl (lv_at hl 1 rfl) ?_
  refine lv_bipush (v := 23) hx hb d_Pc_code_1 (by decide) ?_
  refine cx_S (n := 2) (As := [.int i, .int 23]) (rest := []) ⟨hx, hb, hml, hown, fun _ h9 => nomatch h9⟩ (K_Pc_refuseOutside g σ i 23) (k_294 hT) (k_295 hT) (k_296 hT) (k_1 hT) rfl (by decide +kernel) (hc.at g hS hP) ⟨by decide, by decide⟩ ⟨by decide, by decide⟩ hl.1 (Nat.le_of_ble_eq_true rfl) d_Pc_code_3 (fun _ h9 => h9) hS (fun E ce q t H1 locs ht9 hTx hz hk hS hce hcv hcl => ?_) (fun v t H locs ht9 hRt hz hk hS => ?_)
  · obtain ⟨u, hq, hP⟩ := hTx; rw [ht9] at hP; exact cx_out ht hlocks hce hcv hcl hS (fun t9 h9 _ => Tw.i (u := u) (⟨hq.1, by simp [badC, hq.2.1, ], hq.2.2⟩) (by rw [h9]; exact hP)) (by decide) (by decide)
  · obtain ⟨u, rfl, ⟨hb3, eu⟩, hP⟩ := hRt
    rw [eu, ht9] at hP
    have hD : va_D (gA G) (cw G σ) := g.d
    refine W.eq (g2 := F0 m 6 ls []) rfl ?_
    refine lv_iload_n hx hb d_Pc_code_6 rfl (lv_at hl 2 rfl) ?_
    refine lv_bipush (v := 19) hx hb d_Pc_code_7 (by decide) ?_
    refine cx_S (n := 2) (As := [.int o, .int 19]) (rest := []) ⟨hx, hb, hml, hown, fun _ h9 => nomatch h9⟩ (K_Pc_refuseOutside g σ o 19) (k_294 hT) (k_295 hT) (k_296 hT) (k_1 hT) rfl (by decide +kernel) (hc.at g hS hP) ⟨by decide, by decide⟩ ⟨by decide, by decide⟩ hl.1 (Nat.le_of_ble_eq_true rfl) d_Pc_code_9 (fun _ h9 => h9) hS (fun E ce q t H1 locs ht9 hTx hz hk hS hce hcv hcl => ?_) (fun v t H locs ht9 hRt hz hk hS => ?_)
    · obtain ⟨u, hq, hP⟩ := hTx; rw [ht9] at hP; exact cx_out ht hlocks hce hcv hcl hS (fun t9 h9 _ => Tw.i (u := u) (⟨hq.1, by simp [badC, hq.2.1, hb3], hq.2.2⟩) (by rw [h9]; exact hP)) (by decide) (by decide)
    · obtain ⟨u, rfl, ⟨hb9, eu⟩, hP⟩ := hRt
      rw [eu, ht9] at hP
      have hD : va_D (gA G) (cw G σ) := g.d
      refine W.eq (g2 := F0 m 12 ls []) rfl ?_
      refine lv_iload_n hx hb d_Pc_code_12 rfl (lv_at hl 3 rfl) ?_
      refine lv_bipush (v := 7) hx hb d_Pc_code_13 (by decide) ?_
      refine cx_S (n := 2) (As := [.int d, .int 7]) (rest := []) ⟨hx, hb, hml, hown, fun _ h9 => nomatch h9⟩ (K_Pc_refuseOutside g σ d 7) (k_294 hT) (k_295 hT) (k_296 hT) (k_1 hT) rfl (by decide +kernel) (hc.at g hS hP) ⟨by decide, by decide⟩ ⟨by decide, by decide⟩ hl.1 (Nat.le_of_ble_eq_true rfl) d_Pc_code_15 (fun _ h9 => h9) hS (fun E ce q t H1 locs ht9 hTx hz hk hS hce hcv hcl => ?_) (fun v t H locs ht9 hRt hz hk hS => ?_)
      · obtain ⟨u, hq, hP⟩ := hTx; rw [ht9] at hP; exact cx_out ht hlocks hce hcv hcl hS (fun t9 h9 _ => Tw.i (u := u) (⟨hq.1, by simp [badC, hq.2.1, hb3, hb9], hq.2.2⟩) (by rw [h9]; exact hP)) (by decide) (by decide)
      · obtain ⟨u, rfl, ⟨hb15, eu⟩, hP⟩ := hRt
        rw [eu, ht9] at hP
        have hD : va_D (gA G) (cw G σ) := g.d
        refine W.eq (g2 := F0 m 18 ls []) rfl ?_
        refine lv_iload hx hb d_Pc_code_18 (lv_at hl 4 rfl) ?_
        refine lv_bipush (v := 7) hx hb d_Pc_code_20 (by decide) ?_
        refine cx_S (n := 2) (As := [.int a, .int 7]) (rest := []) ⟨hx, hb, hml, hown, fun _ h9 => nomatch h9⟩ (K_Pc_refuseOutside g σ a 7) (k_294 hT) (k_295 hT) (k_296 hT) (k_1 hT) rfl (by decide +kernel) (hc.at g hS hP) ⟨by decide, by decide⟩ ⟨by decide, by decide⟩ hl.1 (Nat.le_of_ble_eq_true rfl) d_Pc_code_22 (fun _ h9 => h9) hS (fun E ce q t H1 locs ht9 hTx hz hk hS hce hcv hcl => ?_) (fun v t H locs ht9 hRt hz hk hS => ?_)
        · obtain ⟨u, hq, hP⟩ := hTx; rw [ht9] at hP; exact cx_out ht hlocks hce hcv hcl hS (fun t9 h9 _ => Tw.i (u := u) (⟨hq.1, by simp [badC, hq.2.1, hb3, hb9, hb15], hq.2.2⟩) (by rw [h9]; exact hP)) (by decide) (by decide)
        · obtain ⟨u, rfl, ⟨hb22, eu⟩, hP⟩ := hRt
          rw [eu, ht9] at hP
          have hD : va_D (gA G) (cw G σ) := g.d
          refine W.eq (g2 := F0 m 25 ls []) rfl ?_
          refine lv_iload hx hb d_Pc_code_25 (lv_at hl 5 rfl) ?_
          refine lv_bipush (v := 7) hx hb d_Pc_code_27 (by decide) ?_
          refine cx_S (n := 2) (As := [.int b, .int 7]) (rest := []) ⟨hx, hb, hml, hown, fun _ h9 => nomatch h9⟩ (K_Pc_refuseOutside g σ b 7) (k_294 hT) (k_295 hT) (k_296 hT) (k_1 hT) rfl (by decide +kernel) (hc.at g hS hP) ⟨by decide, by decide⟩ ⟨by decide, by decide⟩ hl.1 (Nat.le_of_ble_eq_true rfl) d_Pc_code_29 (fun _ h9 => h9) hS (fun E ce q t H1 locs ht9 hTx hz hk hS hce hcv hcl => ?_) (fun v t H locs ht9 hRt hz hk hS => ?_)
          · obtain ⟨u, hq, hP⟩ := hTx; rw [ht9] at hP; exact cx_out ht hlocks hce hcv hcl hS (fun t9 h9 _ => Tw.i (u := u) (⟨hq.1, by simp [badC, hq.2.1, hb3, hb9, hb15, hb22], hq.2.2⟩) (by rw [h9]; exact hP)) (by decide) (by decide)
          · obtain ⟨u, rfl, ⟨hb29, eu⟩, hP⟩ := hRt
            rw [eu, ht9] at hP
            have hD : va_D (gA G) (cw G σ) := g.d
            refine W.eq (g2 := F0 m 32 ls []) rfl ?_
            refine lv_aload_n hx hb d_Pc_code_32 rfl (lv_at hl 0 rfl) ?_
            refine va_get (D := gD G) (ci := 6) (v := .ref (gad G 1)) (C := R_Pc) (T := F_Pc) (N := 12) hx hb (wl_Pc hT) (fun _ h9 => h9) hown hK hP 0 rfl rfl 0 (by decide) (k_179 hT) (fun _ h9 => h9) rfl d_Pc_code_33 ?_
            refine lv_iload_n hx hb d_Pc_code_36 rfl (lv_at hl 1 rfl) ?_
            refine ald_r (v := gia G ((cP σ 0) i.toNatClampNeg)) hx hb hK hP 1 3 rfl rfl (badR_in (by decide) hb3) (if_pos (wf.2.1 _ (vp_lt (badR_in (by decide) hb3)))) d_Pc_code_37 ?_
            refine lv_iload_n hx hb d_Pc_code_38 rfl (lv_at hl 2 rfl) ?_
            refine lv_iload_n hx hb d_Pc_code_39 rfl (lv_at hl 3 rfl) ?_
            refine lv_iload hx hb d_Pc_code_40 (lv_at hl 4 rfl) ?_
            refine lv_iload hx hb d_Pc_code_42 (lv_at hl 5 rfl) ?_
            refine lv_iload hx hb d_Pc_code_44 (lv_at hl 6 rfl) ?_
            refine cx_V (n := 5) (C := R_In) (As := [.int o, .int d, .int a, .int b, .int n]) (rest := []) ⟨hx, hb, hml, hown, fun _ h9 => nomatch h9⟩ (K_In_become g σ (wf.2.1 _ (vp_lt (badR_in (by decide) hb3))) o d a b n (badR_in (by decide) hb9)) (k_361 hT) (k_362 hT) (k_363 hT) (k_364 hT) (k_8 hT) rfl (by decide +kernel) (va_recv hK hP (ci := 3) (q0 := 19 + ((cP σ 0) i.toNatClampNeg)) rfl (cw_in (wf.2.1 _ (vp_lt (badR_in (by decide) hb3))))) (hc.at g hS hP) ⟨by decide, by decide⟩ ⟨by decide, by decide⟩ hl.1 (Nat.le_of_ble_eq_true rfl) d_Pc_code_46 (fun _ h9 => h9) hS (fun _ _ _ _ _ _ _ h9 => h9.elim) (fun v t H locs ht9 hRt hz hk hS => ?_)
            obtain ⟨u, rfl, eu, hP⟩ := hRt
            rw [eu, ht9] at hP
            have hD : va_D (gA G) (cw G (sQ σ ((cP σ 0) i.toNatClampNeg) (becQ o d a b n))) := g.d
            refine W.eq (g2 := F0 m 49 ls []) rfl ?_
            exact end_v (u := (sQ σ ((cP σ 0) i.toNatClampNeg) (becQ o d a b n))) hx hb hr hlocks hS hP d_Pc_code_49 (⟨by simp [badC, hb3, hb9, hb15, hb22, hb29], rfl⟩)

set_option maxHeartbeats 4000000 in
set_option maxRecDepth 100000 in
theorem K_Pc_cell {l : Launch} {G : GT} (g : GOK l G) (σ : CS) (i : Int32) (v : UInt64) : cx_M l y_Pc_cell (.code y_Pc_cell b_Pc_cell 5 none) 7 110 (gA G) [.ref (gad G 0), .int i, .double v] (Cw G σ) (Rv G (fun u => (badR i 47 = false ∧ badV v = false) ∧ u = sF σ 0 (vf_upd (cF σ 0) (ix i) v))) (Tw G (fun E u => E = "java/lang/IllegalArgumentException" ∧ (badR i 47 = true ∨ (badR i 47 = false ∧ badV v = true)) ∧ u = σ)) := by
  refine cx_of (by decide +kernel) ?_
  intro p e s m below meth c s₁ B hml ht hc
  have hx := B.exec
  have hb := B.bytes
  have hr := B.returns
  have hown : s.vm.findClass R_Pc = some m.cls := findClass_of_methodNamed B.named
  have hlocks := B.notSynchronized
  have hT := g.tb hc
  have hK := g.k hc
  have hD := g.d (σ := σ)
  have hS : va_S (gA G) s.heap s.heap [] := va_S.rf
  have hP := hc.2.2
  have hl := lv_entry ([.ref (gad G 0), .int i, .double v]) (n := 5) (Nat.le_of_ble_eq_true rfl)
  rw [lg_entry_eq]
  generalize (lg_sl ([.ref (gad G 0), .int i, .double v]) ++ List.replicate (5 - (lg_sl ([.ref (gad G 0), .int i, .double v])).length) Slot.unset).toArray = ls at hl ⊢
  have hl : lv_has ls 5 [(0, .ref (gad G 0)), (1, .int i), (2, .double v)] := hl
  refine lv_iload_n hx hb d_Pc_cell_0 rfl (lv_at hl 1 rfl) ?_
  refine lv_bipush (v := 47) hx hb d_Pc_cell_1 (by decide) ?_
  refine cx_S (n := 2) (As := [.int i, .int 47]) (rest := []) ⟨hx, hb, hml, hown, fun _ h9 => nomatch h9⟩ (K_Pc_refuseOutside g σ i 47) (k_294 hT) (k_295 hT) (k_296 hT) (k_1 hT) rfl (by decide +kernel) (hc.at g hS hP) ⟨by decide, by decide⟩ ⟨by decide, by decide⟩ hl.1 (Nat.le_of_ble_eq_true rfl) d_Pc_cell_3 (fun _ h9 => h9) hS (fun E ce q t H1 locs ht9 hTx hz hk hS hce hcv hcl => ?_) (fun v t H locs ht9 hRt hz hk hS => ?_)
  · obtain ⟨u, hq, hP⟩ := hTx; rw [ht9] at hP; exact cx_out ht hlocks hce hcv hcl hS (fun t9 h9 _ => Tw.i (u := u) (⟨hq.1, Or.inl hq.2.1, hq.2.2⟩) (by rw [h9]; exact hP)) (by decide) (by decide)
  · obtain ⟨u, rfl, ⟨hb3, eu⟩, hP⟩ := hRt
    rw [eu, ht9] at hP
    have hD : va_D (gA G) (cw G σ) := g.d
    refine W.eq (g2 := F0 m 6 ls []) rfl ?_
    refine lv_dload_n hx hb d_Pc_cell_6 rfl (lv_at hl 2 rfl) ?_
    refine lv_ldc2d (v := 13920209183539462144) hx hb hown (k_381 hT) d_Pc_cell_7 ?_
    refine lv_dcmp hx hb d_Pc_cell_10 ?_
    refine lv_if_lt (tgt := 26) hx hb d_Pc_cell_11 (by decide) (fun c11 => ?_) (fun c11 => ?_)
    · refine lv_iconst (v := 0) hx hb d_Pc_cell_26 (by decide) ?_
      refine lv_istore (lv' := [(4, .int 0), (0, .ref (gad G 0)), (1, .int i), (2, .double v)]) hx hb d_Pc_cell_27 hl (by decide) rfl (fun ls hl => ?_)
      refine lv_iload hx hb d_Pc_cell_29 (lv_at hl 0 rfl) ?_
      refine lv_if_ne (tgt := 42) hx hb d_Pc_cell_31 (by decide) (fun c31 => ?_) (fun c31 => ?_)
      · exact absurd rfl c31
      · exact cx_throw (own := R_Pc) (cls := "java/lang/IllegalArgumentException") (names := ["java/lang/RuntimeException", "java/lang/Exception"]) (ik := 85) (ic := 87) hx hb g.1 hown (by decide +kernel) (by decide +kernel) (fun U hU hW => ⟨k_297 ((g.tb hc).warm hW), k_13 ((g.tb hc).warm hW), at_IAE_87 g hc hS U hU hW⟩) hS hc.2.1 (by rw [hml]; exact hl.1) d_Pc_cell_34 d_Pc_cell_37 d_Pc_cell_38 d_Pc_cell_41 ht hlocks (by decide) (Nat.le_of_ble_eq_true rfl) (by decide) (by decide) (fun t9 _ _ hk => Tw.i (u := σ) (⟨rfl, Or.inr ⟨hb3, by simp [badV, c11]⟩, rfl⟩) (hP.keep hk))
    · refine lv_dload_n hx hb d_Pc_cell_14 rfl (lv_at hl 2 rfl) ?_
      refine lv_ldc2d (v := 4696837146684686336) hx hb hown (k_382 hT) d_Pc_cell_15 ?_
      refine lv_dcmp hx hb d_Pc_cell_18 ?_
      refine lv_if_gt (tgt := 26) hx hb d_Pc_cell_19 (by decide) (fun c19 => ?_) (fun c19 => ?_)
      · refine lv_iconst (v := 0) hx hb d_Pc_cell_26 (by decide) ?_
        refine lv_istore (lv' := [(4, .int 0), (0, .ref (gad G 0)), (1, .int i), (2, .double v)]) hx hb d_Pc_cell_27 hl (by decide) rfl (fun ls hl => ?_)
        refine lv_iload hx hb d_Pc_cell_29 (lv_at hl 0 rfl) ?_
        refine lv_if_ne (tgt := 42) hx hb d_Pc_cell_31 (by decide) (fun c31 => ?_) (fun c31 => ?_)
        · exact absurd rfl c31
        · exact cx_throw (own := R_Pc) (cls := "java/lang/IllegalArgumentException") (names := ["java/lang/RuntimeException", "java/lang/Exception"]) (ik := 85) (ic := 87) hx hb g.1 hown (by decide +kernel) (by decide +kernel) (fun U hU hW => ⟨k_297 ((g.tb hc).warm hW), k_13 ((g.tb hc).warm hW), at_IAE_87 g hc hS U hU hW⟩) hS hc.2.1 (by rw [hml]; exact hl.1) d_Pc_cell_34 d_Pc_cell_37 d_Pc_cell_38 d_Pc_cell_41 ht hlocks (by decide) (Nat.le_of_ble_eq_true rfl) (by decide) (by decide) (fun t9 _ _ hk => Tw.i (u := σ) (⟨rfl, Or.inr ⟨hb3, by simp [badV, c11, c19]⟩, rfl⟩) (hP.keep hk))
      · refine lv_iconst (v := 1) hx hb d_Pc_cell_22 (by decide) ?_
        refine lv_goto (tgt := 27) hx hb d_Pc_cell_23 (by decide) ?_
        refine lv_istore (lv' := [(4, .int 1), (0, .ref (gad G 0)), (1, .int i), (2, .double v)]) hx hb d_Pc_cell_27 hl (by decide) rfl (fun ls hl => ?_)
        refine lv_iload hx hb d_Pc_cell_29 (lv_at hl 0 rfl) ?_
        refine lv_if_ne (tgt := 42) hx hb d_Pc_cell_31 (by decide) (fun c31 => ?_) (fun c31 => ?_)
        · refine lv_aload_n hx hb d_Pc_cell_42 rfl (lv_at hl 1 rfl) ?_
          refine va_get (D := gD G) (ci := 6) (v := .ref (gad G 2)) (C := R_Pc) (T := F_Pc) (N := 12) hx hb (wl_Pc hT) (fun _ h9 => h9) hown hK hP 0 rfl rfl 1 (by decide) (k_180 hT) (fun _ h9 => h9) rfl d_Pc_cell_43 ?_
          refine lv_iload_n hx hb d_Pc_cell_46 rfl (lv_at hl 2 rfl) ?_
          refine lv_dload_n hx hb d_Pc_cell_47 rfl (lv_at hl 3 rfl) ?_
          refine va_dast (f := (cF σ 0)) hx hb hK hP hD hS 2 1 rfl rfl (badR_in (by decide) hb3) d_Pc_cell_48 (fun H locs hP hD hS => ?_)
          have hP : va_P (gD G) classes (cw G (sF σ 0 (vf_upd (cF σ 0) i.toNatClampNeg v))) H := hP
          have hD : va_D (gA G) (cw G (sF σ 0 (vf_upd (cF σ 0) i.toNatClampNeg v))) := g.d
          exact end_v (u := (sF σ 0 (vf_upd (cF σ 0) i.toNatClampNeg v))) hx hb hr hlocks hS hP d_Pc_cell_49 (⟨⟨hb3, by simp [badV, c11, c19]⟩, rfl⟩)
        · exact absurd c31 (by decide)

