/-! CONTRACTS: Instruction -/
theorem tsw_out {x : Int32} {l : List Int32} {lo hi : Int} {n : Nat} (hl : (List.range n).map (fun j : Nat => Int32.ofInt (lo + (j : Int))) = l) (hh : hi < lo + (n : Int)) (hn : x ∉ l) : x.toInt < lo ∨ hi < x.toInt := by
  by_cases h1 : x.toInt < lo
  · exact Or.inl h1
  · by_cases h2 : hi < x.toInt
    · exact Or.inr h2
    · exfalso
      apply hn
      rw [← hl, List.mem_map]
      refine ⟨(x.toInt - lo).toNat, List.mem_range.mpr (by omega), ?_⟩
      have e : lo + ((x.toInt - lo).toNat : Int) = x.toInt := by omega
      rw [e, Int32.ofInt_toInt]
set_option maxHeartbeats 4000000 in
set_option maxRecDepth 100000 in
theorem K_In_goesToMemory {l : Launch} {G : GT} (g : GOK l G) (σ : CS) {i : Nat} (hi : i < 24) : cx_M l y_In_goesToMemory (.code y_In_goesToMemory b_In_goesToMemory 1 (some .boolean)) 0 0 (gA G) [.ref (gia G i)] (Cw G σ) (Ri G (fun r u => r = b2i (memQ (cQ σ i)) ∧ u = σ)) (Tn) := by
  refine cx_of (by decide +kernel) ?_
  intro p e s m below meth c s₁ B hml ht hc
  have hx := B.exec
  have hb := B.bytes
  have hr := B.returns
  have hown : s.vm.findClass R_In = some m.cls := findClass_of_methodNamed B.named
  have hlocks := B.notSynchronized
  have hT := g.tb hc
  have hK := g.k hc
  have hD := g.d (σ := σ)
  have hS : va_S (gA G) s.heap s.heap [] := va_S.rf
  have hP := hc.2.2
  have hl := lv_entry ([.ref (gia G i)]) (n := 1) (Nat.le_of_ble_eq_true rfl)
  rw [lg_entry_eq]
  generalize (lg_sl ([.ref (gia G i)]) ++ List.replicate (1 - (lg_sl ([.ref (gia G i)])).length) Slot.unset).toArray = ls at hl ⊢
  have hl : lv_has ls 1 [(0, .ref (gia G i))] := hl
  refine lv_aload_n hx hb d_In_goesToMemory_0 rfl (lv_at hl 0 rfl) ?_
  refine va_get (D := gD G) (ci := 3) (v := .int (cQ σ i 0)) (C := R_In) (T := F_In) (N := 8) hx hb (wl_In hT) (fun _ h9 => h9) hown hK hP (19 + i) (cw_in hi) rfl 0 (by decide) (k_145 hT) (fun _ h9 => h9) rfl d_In_goesToMemory_1 ?_
  refine lv_bipush (v := 6) hx hb d_In_goesToMemory_4 (by decide) ?_
  refine lv_icmp_lt (tgt := 22) hx hb d_In_goesToMemory_6 (by decide) (fun c6 => ?_) (fun c6 => ?_)
  · refine lv_iconst (v := 0) hx hb d_In_goesToMemory_22 (by decide) ?_
    exact end_z (u := σ) hx hb hr hlocks hS hP d_In_goesToMemory_23 rfl (⟨by first | (simp [memQ, b2i, c6]; done) | (simp [memQ, b2i] <;> simp_all), rfl⟩)
  · refine lv_aload_n hx hb d_In_goesToMemory_9 rfl (lv_at hl 0 rfl) ?_
    refine va_get (D := gD G) (ci := 3) (v := .int (cQ σ i 0)) (C := R_In) (T := F_In) (N := 8) hx hb (wl_In hT) (fun _ h9 => h9) hown hK hP (19 + i) (cw_in hi) rfl 0 (by decide) (k_145 hT) (fun _ h9 => h9) rfl d_In_goesToMemory_10 ?_
    refine lv_bipush (v := 9) hx hb d_In_goesToMemory_13 (by decide) ?_
    refine lv_icmp_gt (tgt := 22) hx hb d_In_goesToMemory_15 (by decide) (fun c15 => ?_) (fun c15 => ?_)
    · refine lv_iconst (v := 0) hx hb d_In_goesToMemory_22 (by decide) ?_
      exact end_z (u := σ) hx hb hr hlocks hS hP d_In_goesToMemory_23 rfl (⟨by first | (simp [memQ, b2i, c6, c15]; done) | (simp [memQ, b2i] <;> simp_all), rfl⟩)
    · refine lv_iconst (v := 1) hx hb d_In_goesToMemory_18 (by decide) ?_
      refine lv_goto (tgt := 23) hx hb d_In_goesToMemory_19 (by decide) ?_
      exact end_z (u := σ) hx hb hr hlocks hS hP d_In_goesToMemory_23 rfl (⟨by first | (simp [memQ, b2i, c6, c15]; done) | (simp [memQ, b2i] <;> simp_all), rfl⟩)

set_option maxHeartbeats 4000000 in
set_option maxRecDepth 100000 in
theorem K_In_hasTarget {l : Launch} {G : GT} (g : GOK l G) (σ : CS) {i : Nat} (hi : i < 24) : cx_M l y_In_hasTarget (.code y_In_hasTarget b_In_hasTarget 1 (some .boolean)) 0 0 (gA G) [.ref (gia G i)] (Cw G σ) (Ri G (fun r u => r = b2i (tgtQ (cQ σ i)) ∧ u = σ)) (Tn) := by
  refine cx_of (by decide +kernel) ?_
  intro p e s m below meth c s₁ B hml ht hc
  have hx := B.exec
  have hb := B.bytes
  have hr := B.returns
  have hown : s.vm.findClass R_In = some m.cls := findClass_of_methodNamed B.named
  have hlocks := B.notSynchronized
  have hT := g.tb hc
  have hK := g.k hc
  have hD := g.d (σ := σ)
  have hS : va_S (gA G) s.heap s.heap [] := va_S.rf
  have hP := hc.2.2
  have hl := lv_entry ([.ref (gia G i)]) (n := 1) (Nat.le_of_ble_eq_true rfl)
  rw [lg_entry_eq]
  generalize (lg_sl ([.ref (gia G i)]) ++ List.replicate (1 - (lg_sl ([.ref (gia G i)])).length) Slot.unset).toArray = ls at hl ⊢
  have hl : lv_has ls 1 [(0, .ref (gia G i))] := hl
  refine lv_aload_n hx hb d_In_hasTarget_0 rfl (lv_at hl 0 rfl) ?_
  refine va_get (D := gD G) (ci := 3) (v := .int (cQ σ i 0)) (C := R_In) (T := F_In) (N := 8) hx hb (wl_In hT) (fun _ h9 => h9) hown hK hP (19 + i) (cw_in hi) rfl 0 (by decide) (k_145 hT) (fun _ h9 => h9) rfl d_In_hasTarget_1 ?_
  refine lv_bipush (v := 17) hx hb d_In_hasTarget_4 (by decide) ?_
  refine lv_icmp_lt (tgt := 13) hx hb d_In_hasTarget_6 (by decide) (fun c6 => ?_) (fun c6 => ?_)
  · refine lv_iconst (v := 0) hx hb d_In_hasTarget_13 (by decide) ?_
    exact end_z (u := σ) hx hb hr hlocks hS hP d_In_hasTarget_14 rfl (⟨by first | (simp [tgtQ, b2i, c6]; done) | (simp [tgtQ, b2i] <;> simp_all), rfl⟩)
  · refine lv_iconst (v := 1) hx hb d_In_hasTarget_9 (by decide) ?_
    refine lv_goto (tgt := 14) hx hb d_In_hasTarget_10 (by decide) ?_
    exact end_z (u := σ) hx hb hr hlocks hS hP d_In_hasTarget_14 rfl (⟨by first | (simp [tgtQ, b2i, c6]; done) | (simp [tgtQ, b2i] <;> simp_all), rfl⟩)

set_option maxHeartbeats 4000000 in
set_option maxRecDepth 100000 in
theorem K_In_endsBlock {l : Launch} {G : GT} (g : GOK l G) (σ : CS) {i : Nat} (hi : i < 24) : cx_M l y_In_endsBlock (.code y_In_endsBlock b_In_endsBlock 1 (some .boolean)) 1 20 (gA G) [.ref (gia G i)] (Cw G σ) (Ri G (fun r u => r = b2i (endQ (cQ σ i)) ∧ u = σ)) (Tn) := by
  refine cx_of (by decide +kernel) ?_
  intro p e s m below meth c s₁ B hml ht hc
  have hx := B.exec
  have hb := B.bytes
  have hr := B.returns
  have hown : s.vm.findClass R_In = some m.cls := findClass_of_methodNamed B.named
  have hlocks := B.notSynchronized
  have hT := g.tb hc
  have hK := g.k hc
  have hD := g.d (σ := σ)
  have hS : va_S (gA G) s.heap s.heap [] := va_S.rf
  have hP := hc.2.2
  have hl := lv_entry ([.ref (gia G i)]) (n := 1) (Nat.le_of_ble_eq_true rfl)
  rw [lg_entry_eq]
  generalize (lg_sl ([.ref (gia G i)]) ++ List.replicate (1 - (lg_sl ([.ref (gia G i)])).length) Slot.unset).toArray = ls at hl ⊢
  have hl : lv_has ls 1 [(0, .ref (gia G i))] := hl
  refine lv_aload_n hx hb d_In_endsBlock_0 rfl (lv_at hl 0 rfl) ?_
  refine va_get (D := gD G) (ci := 3) (v := .int (cQ σ i 0)) (C := R_In) (T := F_In) (N := 8) hx hb (wl_In hT) (fun _ h9 => h9) hown hK hP (19 + i) (cw_in hi) rfl 0 (by decide) (k_145 hT) (fun _ h9 => h9) rfl d_In_endsBlock_1 ?_
  refine lv_if_eq (tgt := 14) hx hb d_In_endsBlock_4 (by decide) (fun c4 => ?_) (fun c4 => ?_)
  · refine lv_iconst (v := 1) hx hb d_In_endsBlock_14 (by decide) ?_
    refine lv_goto (tgt := 19) hx hb d_In_endsBlock_15 (by decide) ?_
    exact end_z (u := σ) hx hb hr hlocks hS hP d_In_endsBlock_19 rfl (⟨by first | (simp [endQ, b2i, c4]; done) | (simp [endQ, b2i] <;> simp_all), rfl⟩)
  · refine lv_aload_n hx hb d_In_endsBlock_7 rfl (lv_at hl 0 rfl) ?_
    refine cx_V (n := 0) (C := R_In) (As := []) (rest := []) ⟨hx, hb, hml, hown, fun _ h9 => nomatch h9⟩ (K_In_hasTarget g σ hi) (k_232 hT) (k_233 hT) (k_234 hT) (k_235 hT) (k_8 hT) rfl (by decide +kernel) (va_recv hK hP (ci := 3) (q0 := 19 + i) rfl (cw_in hi)) (hc.at g hS hP) ⟨by decide, by decide⟩ ⟨by decide, by decide⟩ hl.1 (Nat.le_of_ble_eq_true rfl) d_In_endsBlock_8 (fun _ h9 => h9) hS (fun _ _ _ _ _ _ _ h9 => h9.elim) (fun v t H locs ht9 hRt hz hk hS => ?_)
    obtain ⟨r, u, rfl, ⟨er, eu⟩, hP⟩ := hRt
    subst er
    rw [eu, ht9] at hP
    have hD : va_D (gA G) (cw G σ) := g.d
    refine W.eq (g2 := F0 m 11 ls [.int (b2i (tgtQ (cQ σ i)))]) rfl ?_
    refine lv_if_eq (tgt := 18) hx hb d_In_endsBlock_11 (by decide) (fun c11 => ?_) (fun c11 => ?_)
    · have c11 := b2i0 c11
      refine lv_iconst (v := 0) hx hb d_In_endsBlock_18 (by decide) ?_
      exact end_z (u := σ) hx hb hr hlocks hS hP d_In_endsBlock_19 rfl (⟨by first | (simp [endQ, b2i, c4, c11]; done) | (simp [endQ, b2i] <;> simp_all), rfl⟩)
    · have c11 := b2i1 c11
      refine lv_iconst (v := 1) hx hb d_In_endsBlock_14 (by decide) ?_
      refine lv_goto (tgt := 19) hx hb d_In_endsBlock_15 (by decide) ?_
      exact end_z (u := σ) hx hb hr hlocks hS hP d_In_endsBlock_19 rfl (⟨by first | (simp [endQ, b2i, c4, c11]; done) | (simp [endQ, b2i] <;> simp_all), rfl⟩)

set_option maxHeartbeats 4000000 in
set_option maxRecDepth 100000 in
theorem K_In_keepsItsTurn {l : Launch} {G : GT} (g : GOK l G) (σ : CS) {i : Nat} (hi : i < 24) : cx_M l y_In_keepsItsTurn (.code y_In_keepsItsTurn b_In_keepsItsTurn 1 (some .boolean)) 0 0 (gA G) [.ref (gia G i)] (Cw G σ) (Ri G (fun r u => r = b2i (trnQ (cQ σ i)) ∧ u = σ)) (Tn) := by
  refine cx_of (by decide +kernel) ?_
  intro p e s m below meth c s₁ B hml ht hc
  have hx := B.exec
  have hb := B.bytes
  have hr := B.returns
  have hown : s.vm.findClass R_In = some m.cls := findClass_of_methodNamed B.named
  have hlocks := B.notSynchronized
  have hT := g.tb hc
  have hK := g.k hc
  have hD := g.d (σ := σ)
  have hS : va_S (gA G) s.heap s.heap [] := va_S.rf
  have hP := hc.2.2
  have hl := lv_entry ([.ref (gia G i)]) (n := 1) (Nat.le_of_ble_eq_true rfl)
  rw [lg_entry_eq]
  generalize (lg_sl ([.ref (gia G i)]) ++ List.replicate (1 - (lg_sl ([.ref (gia G i)])).length) Slot.unset).toArray = ls at hl ⊢
  have hl : lv_has ls 1 [(0, .ref (gia G i))] := hl
  refine lv_aload_n hx hb d_In_keepsItsTurn_0 rfl (lv_at hl 0 rfl) ?_
  refine va_get (D := gD G) (ci := 3) (v := .int (cQ σ i 0)) (C := R_In) (T := F_In) (N := 8) hx hb (wl_In hT) (fun _ h9 => h9) hown hK hP (19 + i) (cw_in hi) rfl 0 (by decide) (k_145 hT) (fun _ h9 => h9) rfl d_In_keepsItsTurn_1 ?_
  refine lv_bipush (v := 6) hx hb d_In_keepsItsTurn_4 (by decide) ?_
  refine lv_icmp_lt (tgt := 22) hx hb d_In_keepsItsTurn_6 (by decide) (fun c6 => ?_) (fun c6 => ?_)
  · refine lv_iconst (v := 0) hx hb d_In_keepsItsTurn_22 (by decide) ?_
    exact end_z (u := σ) hx hb hr hlocks hS hP d_In_keepsItsTurn_23 rfl (⟨by first | (simp [trnQ, b2i, c6]; done) | (simp [trnQ, b2i] <;> simp_all), rfl⟩)
  · refine lv_aload_n hx hb d_In_keepsItsTurn_9 rfl (lv_at hl 0 rfl) ?_
    refine va_get (D := gD G) (ci := 3) (v := .int (cQ σ i 0)) (C := R_In) (T := F_In) (N := 8) hx hb (wl_In hT) (fun _ h9 => h9) hown hK hP (19 + i) (cw_in hi) rfl 0 (by decide) (k_145 hT) (fun _ h9 => h9) rfl d_In_keepsItsTurn_10 ?_
    refine lv_bipush (v := 13) hx hb d_In_keepsItsTurn_13 (by decide) ?_
    refine lv_icmp_gt (tgt := 22) hx hb d_In_keepsItsTurn_15 (by decide) (fun c15 => ?_) (fun c15 => ?_)
    · refine lv_iconst (v := 0) hx hb d_In_keepsItsTurn_22 (by decide) ?_
      exact end_z (u := σ) hx hb hr hlocks hS hP d_In_keepsItsTurn_23 rfl (⟨by first | (simp [trnQ, b2i, c6, c15]; done) | (simp [trnQ, b2i] <;> simp_all), rfl⟩)
    · refine lv_iconst (v := 1) hx hb d_In_keepsItsTurn_18 (by decide) ?_
      refine lv_goto (tgt := 23) hx hb d_In_keepsItsTurn_19 (by decide) ?_
      exact end_z (u := σ) hx hb hr hlocks hS hP d_In_keepsItsTurn_23 rfl (⟨by first | (simp [trnQ, b2i, c6, c15]; done) | (simp [trnQ, b2i] <;> simp_all), rfl⟩)

set_option maxHeartbeats 4000000 in
set_option maxRecDepth 100000 in
theorem K_In_readsWhatIsWrittenBy {l : Launch} {G : GT} (g : GOK l G) (σ : CS) {i : Nat} (hi : i < 24) {j : Nat} (hj : j < 24) : cx_M l y_In_readsWhatIsWrittenBy (.code y_In_readsWhatIsWrittenBy b_In_readsWhatIsWrittenBy 3 (some .boolean)) 0 0 (gA G) [.ref (gia G i), .ref (gia G j)] (Cw G σ) (Ri G (fun r u => r = b2i (rwQ (cQ σ i) (cQ σ j)) ∧ u = σ)) (Tn) := by
  refine cx_of (by decide +kernel) ?_
  intro p e s m below meth c s₁ B hml ht hc
  have hx := B.exec
  have hb := B.bytes
  have hr := B.returns
  have hown : s.vm.findClass R_In = some m.cls := findClass_of_methodNamed B.named
  have hlocks := B.notSynchronized
  have hT := g.tb hc
  have hK := g.k hc
  have hD := g.d (σ := σ)
  have hS : va_S (gA G) s.heap s.heap [] := va_S.rf
  have hP := hc.2.2
  have hl := lv_entry ([.ref (gia G i), .ref (gia G j)]) (n := 3) (Nat.le_of_ble_eq_true rfl)
  rw [lg_entry_eq]
  generalize (lg_sl ([.ref (gia G i), .ref (gia G j)]) ++ List.replicate (3 - (lg_sl ([.ref (gia G i), .ref (gia G j)])).length) Slot.unset).toArray = ls at hl ⊢
  have hl : lv_has ls 3 [(0, .ref (gia G i)), (1, .ref (gia G j))] := hl
  refine lv_aload_n hx hb d_In_readsWhatIsWrittenBy_0 rfl (lv_at hl 1 rfl) ?_
  refine va_get (D := gD G) (ci := 3) (v := .int (cQ σ j 5)) (C := R_In) (T := F_In) (N := 8) hx hb (wl_In hT) (fun _ h9 => h9) hown hK hP (19 + j) (cw_in hj) rfl 5 (by decide) (k_156 hT) (fun _ h9 => h9) rfl d_In_readsWhatIsWrittenBy_1 ?_
  refine lv_istore_n (lv' := [(2, .int (cQ σ j 5)), (0, .ref (gia G i)), (1, .ref (gia G j))]) hx hb d_In_readsWhatIsWrittenBy_4 rfl hl (by decide) rfl (fun ls hl => ?_)
  refine lv_iload_n hx hb d_In_readsWhatIsWrittenBy_5 rfl (lv_at hl 0 rfl) ?_
  refine lv_iconst (v := (-1)) hx hb d_In_readsWhatIsWrittenBy_6 (by decide) ?_
  refine lv_icmp_eq (tgt := 30) hx hb d_In_readsWhatIsWrittenBy_7 (by decide) (fun c7 => ?_) (fun c7 => ?_)
  · refine lv_iconst (v := 0) hx hb d_In_readsWhatIsWrittenBy_30 (by decide) ?_
    exact end_z (u := σ) hx hb hr hlocks hS hP d_In_readsWhatIsWrittenBy_31 rfl (⟨by first | (simp [rwQ, b2i, c7]; done) | (simp [rwQ, b2i] <;> simp_all), rfl⟩)
  · refine lv_aload_n hx hb d_In_readsWhatIsWrittenBy_10 rfl (lv_at hl 1 rfl) ?_
    refine va_get (D := gD G) (ci := 3) (v := .int (cQ σ i 6)) (C := R_In) (T := F_In) (N := 8) hx hb (wl_In hT) (fun _ h9 => h9) hown hK hP (19 + i) (cw_in hi) rfl 6 (by decide) (k_158 hT) (fun _ h9 => h9) rfl d_In_readsWhatIsWrittenBy_11 ?_
    refine lv_iload_n hx hb d_In_readsWhatIsWrittenBy_14 rfl (lv_at hl 0 rfl) ?_
    refine lv_icmp_eq (tgt := 26) hx hb d_In_readsWhatIsWrittenBy_15 (by decide) (fun c15 => ?_) (fun c15 => ?_)
    · refine lv_iconst (v := 1) hx hb d_In_readsWhatIsWrittenBy_26 (by decide) ?_
      refine lv_goto (tgt := 31) hx hb d_In_readsWhatIsWrittenBy_27 (by decide) ?_
      exact end_z (u := σ) hx hb hr hlocks hS hP d_In_readsWhatIsWrittenBy_31 rfl (⟨by first | (simp [rwQ, b2i, c7, c15]; done) | (simp [rwQ, b2i] <;> simp_all), rfl⟩)
    · refine lv_aload_n hx hb d_In_readsWhatIsWrittenBy_18 rfl (lv_at hl 1 rfl) ?_
      refine va_get (D := gD G) (ci := 3) (v := .int (cQ σ i 7)) (C := R_In) (T := F_In) (N := 8) hx hb (wl_In hT) (fun _ h9 => h9) hown hK hP (19 + i) (cw_in hi) rfl 7 (by decide) (k_160 hT) (fun _ h9 => h9) rfl d_In_readsWhatIsWrittenBy_19 ?_
      refine lv_iload_n hx hb d_In_readsWhatIsWrittenBy_22 rfl (lv_at hl 0 rfl) ?_
      refine lv_icmp_ne (tgt := 30) hx hb d_In_readsWhatIsWrittenBy_23 (by decide) (fun c23 => ?_) (fun c23 => ?_)
      · refine lv_iconst (v := 0) hx hb d_In_readsWhatIsWrittenBy_30 (by decide) ?_
        exact end_z (u := σ) hx hb hr hlocks hS hP d_In_readsWhatIsWrittenBy_31 rfl (⟨by first | (simp [rwQ, b2i, c7, c15, c23]; done) | (simp [rwQ, b2i] <;> simp_all), rfl⟩)
      · refine lv_iconst (v := 1) hx hb d_In_readsWhatIsWrittenBy_26 (by decide) ?_
        refine lv_goto (tgt := 31) hx hb d_In_readsWhatIsWrittenBy_27 (by decide) ?_
        exact end_z (u := σ) hx hb hr hlocks hS hP d_In_readsWhatIsWrittenBy_31 rfl (⟨by first | (simp [rwQ, b2i, c7, c15, c23]; done) | (simp [rwQ, b2i] <;> simp_all), rfl⟩)

set_option maxHeartbeats 4000000 in
set_option maxRecDepth 100000 in
theorem K_In_mustStayBehind {l : Launch} {G : GT} (g : GOK l G) (σ : CS) {i : Nat} (hi : i < 24) {j : Nat} (hj : j < 24) : cx_M l y_In_mustStayBehind (.code y_In_mustStayBehind b_In_mustStayBehind 3 (some .boolean)) 1 22 (gA G) [.ref (gia G i), .ref (gia G j)] (Cw G σ) (Ri G (fun r u => r = b2i (msbQ (cQ σ i) (cQ σ j)) ∧ u = σ)) (Tn) := by
  refine cx_of (by decide +kernel) ?_
  intro p e s m below meth c s₁ B hml ht hc
  have hx := B.exec
  have hb := B.bytes
  have hr := B.returns
  have hown : s.vm.findClass R_In = some m.cls := findClass_of_methodNamed B.named
  have hlocks := B.notSynchronized
  have hT := g.tb hc
  have hK := g.k hc
  have hD := g.d (σ := σ)
  have hS : va_S (gA G) s.heap s.heap [] := va_S.rf
  have hP := hc.2.2
  have hl := lv_entry ([.ref (gia G i), .ref (gia G j)]) (n := 3) (Nat.le_of_ble_eq_true rfl)
  rw [lg_entry_eq]
  generalize (lg_sl ([.ref (gia G i), .ref (gia G j)]) ++ List.replicate (3 - (lg_sl ([.ref (gia G i), .ref (gia G j)])).length) Slot.unset).toArray = ls at hl ⊢
  have hl : lv_has ls 3 [(0, .ref (gia G i)), (1, .ref (gia G j))] := hl
  refine lv_aload_n hx hb d_In_mustStayBehind_0 rfl (lv_at hl 0 rfl) ?_
  refine va_get (D := gD G) (ci := 3) (v := .int (cQ σ i 5)) (C := R_In) (T := F_In) (N := 8) hx hb (wl_In hT) (fun _ h9 => h9) hown hK hP (19 + i) (cw_in hi) rfl 5 (by decide) (k_156 hT) (fun _ h9 => h9) rfl d_In_mustStayBehind_1 ?_
  refine lv_iconst (v := (-1)) hx hb d_In_mustStayBehind_4 (by decide) ?_
  refine lv_icmp_eq (tgt := 23) hx hb d_In_mustStayBehind_5 (by decide) (fun c5 => ?_) (fun c5 => ?_)
  · refine lv_iconst (v := 0) hx hb d_In_mustStayBehind_23 (by decide) ?_
    refine lv_istore_n (lv' := [(2, .int 0), (0, .ref (gia G i)), (1, .ref (gia G j))]) hx hb d_In_mustStayBehind_24 rfl hl (by decide) rfl (fun ls hl => ?_)
    refine lv_iload_n hx hb d_In_mustStayBehind_25 rfl (lv_at hl 0 rfl) ?_
    refine lv_if_ne (tgt := 59) hx hb d_In_mustStayBehind_26 (by decide) (fun c26 => ?_) (fun c26 => ?_)
    · exact absurd rfl c26
    · refine lv_aload_n hx hb d_In_mustStayBehind_29 rfl (lv_at hl 1 rfl) ?_
      refine lv_aload_n hx hb d_In_mustStayBehind_30 rfl (lv_at hl 2 rfl) ?_
      refine cx_V (n := 1) (C := R_In) (As := [.ref (gia G j)]) (rest := []) ⟨hx, hb, hml, hown, fun _ h9 => nomatch h9⟩ (K_In_readsWhatIsWrittenBy g σ hi hj) (k_260 hT) (k_261 hT) (k_262 hT) (k_263 hT) (k_8 hT) rfl (by decide +kernel) (va_recv hK hP (ci := 3) (q0 := 19 + i) rfl (cw_in hi)) (hc.at g hS hP) ⟨by decide, by decide⟩ ⟨by decide, by decide⟩ hl.1 (Nat.le_of_ble_eq_true rfl) d_In_mustStayBehind_31 (fun _ h9 => h9) hS (fun _ _ _ _ _ _ _ h9 => h9.elim) (fun v t H locs ht9 hRt hz hk hS => ?_)
      obtain ⟨r, u, rfl, ⟨er, eu⟩, hP⟩ := hRt
      subst er
      rw [eu, ht9] at hP
      have hD : va_D (gA G) (cw G σ) := g.d
      refine W.eq (g2 := F0 m 34 ls [.int (b2i (rwQ (cQ σ i) (cQ σ j)))]) rfl ?_
      refine lv_if_ne (tgt := 59) hx hb d_In_mustStayBehind_34 (by decide) (fun c34 => ?_) (fun c34 => ?_)
      · have c34 := b2i1 c34
        refine lv_iconst (v := 1) hx hb d_In_mustStayBehind_59 (by decide) ?_
        refine lv_goto (tgt := 64) hx hb d_In_mustStayBehind_60 (by decide) ?_
        exact end_z (u := σ) hx hb hr hlocks hS hP d_In_mustStayBehind_64 rfl (⟨by first | (simp [msbQ, bwQ, b2i, c5, c34]; done) | (simp [msbQ, bwQ, b2i] <;> simp_all), rfl⟩)
      · have c34 := b2i0 c34
        refine lv_aload_n hx hb d_In_mustStayBehind_37 rfl (lv_at hl 2 rfl) ?_
        refine lv_aload_n hx hb d_In_mustStayBehind_38 rfl (lv_at hl 1 rfl) ?_
        refine cx_V (n := 1) (C := R_In) (As := [.ref (gia G i)]) (rest := []) ⟨hx, hb, hml, hown, fun _ h9 => nomatch h9⟩ (K_In_readsWhatIsWrittenBy g σ hj hi) (k_260 hT) (k_261 hT) (k_262 hT) (k_263 hT) (k_8 hT) rfl (by decide +kernel) (va_recv hK hP (ci := 3) (q0 := 19 + j) rfl (cw_in hj)) (hc.at g hS hP) ⟨by decide, by decide⟩ ⟨by decide, by decide⟩ hl.1 (Nat.le_of_ble_eq_true rfl) d_In_mustStayBehind_39 (fun _ h9 => h9) hS (fun _ _ _ _ _ _ _ h9 => h9.elim) (fun v t H locs ht9 hRt hz hk hS => ?_)
        obtain ⟨r, u, rfl, ⟨er, eu⟩, hP⟩ := hRt
        subst er
        rw [eu, ht9] at hP
        have hD : va_D (gA G) (cw G σ) := g.d
        refine W.eq (g2 := F0 m 42 ls [.int (b2i (rwQ (cQ σ j) (cQ σ i)))]) rfl ?_
        refine lv_if_ne (tgt := 59) hx hb d_In_mustStayBehind_42 (by decide) (fun c42 => ?_) (fun c42 => ?_)
        · have c42 := b2i1 c42
          refine lv_iconst (v := 1) hx hb d_In_mustStayBehind_59 (by decide) ?_
          refine lv_goto (tgt := 64) hx hb d_In_mustStayBehind_60 (by decide) ?_
          exact end_z (u := σ) hx hb hr hlocks hS hP d_In_mustStayBehind_64 rfl (⟨by first | (simp [msbQ, bwQ, b2i, c5, c34, c42]; done) | (simp [msbQ, bwQ, b2i] <;> simp_all), rfl⟩)
        · have c42 := b2i0 c42
          refine lv_aload_n hx hb d_In_mustStayBehind_45 rfl (lv_at hl 1 rfl) ?_
          refine cx_V (n := 0) (C := R_In) (As := []) (rest := []) ⟨hx, hb, hml, hown, fun _ h9 => nomatch h9⟩ (K_In_keepsItsTurn g σ hi) (k_264 hT) (k_266 hT) (ks_4 hT) (k_267 hT) (k_8 hT) rfl (by decide +kernel) (va_recv hK hP (ci := 3) (q0 := 19 + i) rfl (cw_in hi)) (hc.at g hS hP) ⟨by decide, by decide⟩ ⟨by decide, by decide⟩ hl.1 (Nat.le_of_ble_eq_true rfl) d_In_mustStayBehind_46 (fun _ h9 => h9) hS (fun _ _ _ _ _ _ _ h9 => h9.elim) (fun v t H locs ht9 hRt hz hk hS => ?_)
          obtain ⟨r, u, rfl, ⟨er, eu⟩, hP⟩ := hRt
          subst er
          rw [eu, ht9] at hP
          have hD : va_D (gA G) (cw G σ) := g.d
          refine W.eq (g2 := F0 m 49 ls [.int (b2i (trnQ (cQ σ i)))]) rfl ?_
          refine lv_if_eq (tgt := 63) hx hb d_In_mustStayBehind_49 (by decide) (fun c49 => ?_) (fun c49 => ?_)
          · have c49 := b2i0 c49
            refine lv_iconst (v := 0) hx hb d_In_mustStayBehind_63 (by decide) ?_
            exact end_z (u := σ) hx hb hr hlocks hS hP d_In_mustStayBehind_64 rfl (⟨by first | (simp [msbQ, bwQ, b2i, c5, c34, c42, c49]; done) | (simp [msbQ, bwQ, b2i] <;> simp_all), rfl⟩)
          · have c49 := b2i1 c49
            refine lv_aload_n hx hb d_In_mustStayBehind_52 rfl (lv_at hl 2 rfl) ?_
            refine cx_V (n := 0) (C := R_In) (As := []) (rest := []) ⟨hx, hb, hml, hown, fun _ h9 => nomatch h9⟩ (K_In_keepsItsTurn g σ hj) (k_264 hT) (k_266 hT) (ks_4 hT) (k_267 hT) (k_8 hT) rfl (by decide +kernel) (va_recv hK hP (ci := 3) (q0 := 19 + j) rfl (cw_in hj)) (hc.at g hS hP) ⟨by decide, by decide⟩ ⟨by decide, by decide⟩ hl.1 (Nat.le_of_ble_eq_true rfl) d_In_mustStayBehind_53 (fun _ h9 => h9) hS (fun _ _ _ _ _ _ _ h9 => h9.elim) (fun v t H locs ht9 hRt hz hk hS => ?_)
            obtain ⟨r, u, rfl, ⟨er, eu⟩, hP⟩ := hRt
            subst er
            rw [eu, ht9] at hP
            have hD : va_D (gA G) (cw G σ) := g.d
            refine W.eq (g2 := F0 m 56 ls [.int (b2i (trnQ (cQ σ j)))]) rfl ?_
            refine lv_if_eq (tgt := 63) hx hb d_In_mustStayBehind_56 (by decide) (fun c56 => ?_) (fun c56 => ?_)
            · have c56 := b2i0 c56
              refine lv_iconst (v := 0) hx hb d_In_mustStayBehind_63 (by decide) ?_
              exact end_z (u := σ) hx hb hr hlocks hS hP d_In_mustStayBehind_64 rfl (⟨by first | (simp [msbQ, bwQ, b2i, c5, c34, c42, c49, c56]; done) | (simp [msbQ, bwQ, b2i] <;> simp_all), rfl⟩)
            · have c56 := b2i1 c56
              refine lv_iconst (v := 1) hx hb d_In_mustStayBehind_59 (by decide) ?_
              refine lv_goto (tgt := 64) hx hb d_In_mustStayBehind_60 (by decide) ?_
              exact end_z (u := σ) hx hb hr hlocks hS hP d_In_mustStayBehind_64 rfl (⟨by first | (simp [msbQ, bwQ, b2i, c5, c34, c42, c49, c56]; done) | (simp [msbQ, bwQ, b2i] <;> simp_all), rfl⟩)
  · refine lv_aload_n hx hb d_In_mustStayBehind_8 rfl (lv_at hl 0 rfl) ?_
    refine va_get (D := gD G) (ci := 3) (v := .int (cQ σ i 5)) (C := R_In) (T := F_In) (N := 8) hx hb (wl_In hT) (fun _ h9 => h9) hown hK hP (19 + i) (cw_in hi) rfl 5 (by decide) (k_156 hT) (fun _ h9 => h9) rfl d_In_mustStayBehind_9 ?_
    refine lv_aload_n hx hb d_In_mustStayBehind_12 rfl (lv_at hl 1 rfl) ?_
    refine va_get (D := gD G) (ci := 3) (v := .int (cQ σ j 5)) (C := R_In) (T := F_In) (N := 8) hx hb (wl_In hT) (fun _ h9 => h9) hown hK hP (19 + j) (cw_in hj) rfl 5 (by decide) (k_156 hT) (fun _ h9 => h9) rfl d_In_mustStayBehind_13 ?_
    refine lv_icmp_ne (tgt := 23) hx hb d_In_mustStayBehind_16 (by decide) (fun c16 => ?_) (fun c16 => ?_)
    · refine lv_iconst (v := 0) hx hb d_In_mustStayBehind_23 (by decide) ?_
      refine lv_istore_n (lv' := [(2, .int 0), (0, .ref (gia G i)), (1, .ref (gia G j))]) hx hb d_In_mustStayBehind_24 rfl hl (by decide) rfl (fun ls hl => ?_)
      refine lv_iload_n hx hb d_In_mustStayBehind_25 rfl (lv_at hl 0 rfl) ?_
      refine lv_if_ne (tgt := 59) hx hb d_In_mustStayBehind_26 (by decide) (fun c26 => ?_) (fun c26 => ?_)
      · exact absurd rfl c26
      · refine lv_aload_n hx hb d_In_mustStayBehind_29 rfl (lv_at hl 1 rfl) ?_
        refine lv_aload_n hx hb d_In_mustStayBehind_30 rfl (lv_at hl 2 rfl) ?_
        refine cx_V (n := 1) (C := R_In) (As := [.ref (gia G j)]) (rest := []) ⟨hx, hb, hml, hown, fun _ h9 => nomatch h9⟩ (K_In_readsWhatIsWrittenBy g σ hi hj) (k_260 hT) (k_261 hT) (k_262 hT) (k_263 hT) (k_8 hT) rfl (by decide +kernel) (va_recv hK hP (ci := 3) (q0 := 19 + i) rfl (cw_in hi)) (hc.at g hS hP) ⟨by decide, by decide⟩ ⟨by decide, by decide⟩ hl.1 (Nat.le_of_ble_eq_true rfl) d_In_mustStayBehind_31 (fun _ h9 => h9) hS (fun _ _ _ _ _ _ _ h9 => h9.elim) (fun v t H locs ht9 hRt hz hk hS => ?_)
        obtain ⟨r, u, rfl, ⟨er, eu⟩, hP⟩ := hRt
        subst er
        rw [eu, ht9] at hP
        have hD : va_D (gA G) (cw G σ) := g.d
        refine W.eq (g2 := F0 m 34 ls [.int (b2i (rwQ (cQ σ i) (cQ σ j)))]) rfl ?_
        refine lv_if_ne (tgt := 59) hx hb d_In_mustStayBehind_34 (by decide) (fun c34 => ?_) (fun c34 => ?_)
        · have c34 := b2i1 c34
          refine lv_iconst (v := 1) hx hb d_In_mustStayBehind_59 (by decide) ?_
          refine lv_goto (tgt := 64) hx hb d_In_mustStayBehind_60 (by decide) ?_
          exact end_z (u := σ) hx hb hr hlocks hS hP d_In_mustStayBehind_64 rfl (⟨by first | (simp [msbQ, bwQ, b2i, c5, c16, c34]; done) | (simp [msbQ, bwQ, b2i] <;> simp_all), rfl⟩)
        · have c34 := b2i0 c34
          refine lv_aload_n hx hb d_In_mustStayBehind_37 rfl (lv_at hl 2 rfl) ?_
          refine lv_aload_n hx hb d_In_mustStayBehind_38 rfl (lv_at hl 1 rfl) ?_
          refine cx_V (n := 1) (C := R_In) (As := [.ref (gia G i)]) (rest := []) ⟨hx, hb, hml, hown, fun _ h9 => nomatch h9⟩ (K_In_readsWhatIsWrittenBy g σ hj hi) (k_260 hT) (k_261 hT) (k_262 hT) (k_263 hT) (k_8 hT) rfl (by decide +kernel) (va_recv hK hP (ci := 3) (q0 := 19 + j) rfl (cw_in hj)) (hc.at g hS hP) ⟨by decide, by decide⟩ ⟨by decide, by decide⟩ hl.1 (Nat.le_of_ble_eq_true rfl) d_In_mustStayBehind_39 (fun _ h9 => h9) hS (fun _ _ _ _ _ _ _ h9 => h9.elim) (fun v t H locs ht9 hRt hz hk hS => ?_)
          obtain ⟨r, u, rfl, ⟨er, eu⟩, hP⟩ := hRt
          subst er
          rw [eu, ht9] at hP
          have hD : va_D (gA G) (cw G σ) := g.d
          refine W.eq (g2 := F0 m 42 ls [.int (b2i (rwQ (cQ σ j) (cQ σ i)))]) rfl ?_
          refine lv_if_ne (tgt := 59) hx hb d_In_mustStayBehind_42 (by decide) (fun c42 => ?_) (fun c42 => ?_)
          · have c42 := b2i1 c42
            refine lv_iconst (v := 1) hx hb d_In_mustStayBehind_59 (by decide) ?_
            refine lv_goto (tgt := 64) hx hb d_In_mustStayBehind_60 (by decide) ?_
            exact end_z (u := σ) hx hb hr hlocks hS hP d_In_mustStayBehind_64 rfl (⟨by first | (simp [msbQ, bwQ, b2i, c5, c16, c34, c42]; done) | (simp [msbQ, bwQ, b2i] <;> simp_all), rfl⟩)
          · have c42 := b2i0 c42
            refine lv_aload_n hx hb d_In_mustStayBehind_45 rfl (lv_at hl 1 rfl) ?_
            refine cx_V (n := 0) (C := R_In) (As := []) (rest := []) ⟨hx, hb, hml, hown, fun _ h9 => nomatch h9⟩ (K_In_keepsItsTurn g σ hi) (k_264 hT) (k_266 hT) (ks_4 hT) (k_267 hT) (k_8 hT) rfl (by decide +kernel) (va_recv hK hP (ci := 3) (q0 := 19 + i) rfl (cw_in hi)) (hc.at g hS hP) ⟨by decide, by decide⟩ ⟨by decide, by decide⟩ hl.1 (Nat.le_of_ble_eq_true rfl) d_In_mustStayBehind_46 (fun _ h9 => h9) hS (fun _ _ _ _ _ _ _ h9 => h9.elim) (fun v t H locs ht9 hRt hz hk hS => ?_)
            obtain ⟨r, u, rfl, ⟨er, eu⟩, hP⟩ := hRt
            subst er
            rw [eu, ht9] at hP
            have hD : va_D (gA G) (cw G σ) := g.d
            refine W.eq (g2 := F0 m 49 ls [.int (b2i (trnQ (cQ σ i)))]) rfl ?_
            refine lv_if_eq (tgt := 63) hx hb d_In_mustStayBehind_49 (by decide) (fun c49 => ?_) (fun c49 => ?_)
            · have c49 := b2i0 c49
              refine lv_iconst (v := 0) hx hb d_In_mustStayBehind_63 (by decide) ?_
              exact end_z (u := σ) hx hb hr hlocks hS hP d_In_mustStayBehind_64 rfl (⟨by first | (simp [msbQ, bwQ, b2i, c5, c16, c34, c42, c49]; done) | (simp [msbQ, bwQ, b2i] <;> simp_all), rfl⟩)
            · have c49 := b2i1 c49
              refine lv_aload_n hx hb d_In_mustStayBehind_52 rfl (lv_at hl 2 rfl) ?_
              refine cx_V (n := 0) (C := R_In) (As := []) (rest := []) ⟨hx, hb, hml, hown, fun _ h9 => nomatch h9⟩ (K_In_keepsItsTurn g σ hj) (k_264 hT) (k_266 hT) (ks_4 hT) (k_267 hT) (k_8 hT) rfl (by decide +kernel) (va_recv hK hP (ci := 3) (q0 := 19 + j) rfl (cw_in hj)) (hc.at g hS hP) ⟨by decide, by decide⟩ ⟨by decide, by decide⟩ hl.1 (Nat.le_of_ble_eq_true rfl) d_In_mustStayBehind_53 (fun _ h9 => h9) hS (fun _ _ _ _ _ _ _ h9 => h9.elim) (fun v t H locs ht9 hRt hz hk hS => ?_)
              obtain ⟨r, u, rfl, ⟨er, eu⟩, hP⟩ := hRt
              subst er
              rw [eu, ht9] at hP
              have hD : va_D (gA G) (cw G σ) := g.d
              refine W.eq (g2 := F0 m 56 ls [.int (b2i (trnQ (cQ σ j)))]) rfl ?_
              refine lv_if_eq (tgt := 63) hx hb d_In_mustStayBehind_56 (by decide) (fun c56 => ?_) (fun c56 => ?_)
              · have c56 := b2i0 c56
                refine lv_iconst (v := 0) hx hb d_In_mustStayBehind_63 (by decide) ?_
                exact end_z (u := σ) hx hb hr hlocks hS hP d_In_mustStayBehind_64 rfl (⟨by first | (simp [msbQ, bwQ, b2i, c5, c16, c34, c42, c49, c56]; done) | (simp [msbQ, bwQ, b2i] <;> simp_all), rfl⟩)
              · have c56 := b2i1 c56
                refine lv_iconst (v := 1) hx hb d_In_mustStayBehind_59 (by decide) ?_
                refine lv_goto (tgt := 64) hx hb d_In_mustStayBehind_60 (by decide) ?_
                exact end_z (u := σ) hx hb hr hlocks hS hP d_In_mustStayBehind_64 rfl (⟨by first | (simp [msbQ, bwQ, b2i, c5, c16, c34, c42, c49, c56]; done) | (simp [msbQ, bwQ, b2i] <;> simp_all), rfl⟩)
    · refine lv_iconst (v := 1) hx hb d_In_mustStayBehind_19 (by decide) ?_
      refine lv_goto (tgt := 24) hx hb d_In_mustStayBehind_20 (by decide) ?_
      refine lv_istore_n (lv' := [(2, .int 1), (0, .ref (gia G i)), (1, .ref (gia G j))]) hx hb d_In_mustStayBehind_24 rfl hl (by decide) rfl (fun ls hl => ?_)
      refine lv_iload_n hx hb d_In_mustStayBehind_25 rfl (lv_at hl 0 rfl) ?_
      refine lv_if_ne (tgt := 59) hx hb d_In_mustStayBehind_26 (by decide) (fun c26 => ?_) (fun c26 => ?_)
      · refine lv_iconst (v := 1) hx hb d_In_mustStayBehind_59 (by decide) ?_
        refine lv_goto (tgt := 64) hx hb d_In_mustStayBehind_60 (by decide) ?_
        exact end_z (u := σ) hx hb hr hlocks hS hP d_In_mustStayBehind_64 rfl (⟨by first | (simp [msbQ, bwQ, b2i, c5, c16]; done) | (simp [msbQ, bwQ, b2i] <;> simp_all), rfl⟩)
      · exact absurd c26 (by decide)

set_option maxHeartbeats 4000000 in
set_option maxRecDepth 100000 in
theorem K_In_register {l : Launch} {G : GT} (g : GOK l G) (σ : CS) (k n : Int32) : cx_M l y_In_register (.code y_In_register b_In_register 2 (some .int)) 0 0 (gA G) [.int k, .int n] (Cw G σ) (Ri G (fun r u => r = regF k n ∧ u = σ)) (Tn) := by
  refine cx_of (by decide +kernel) ?_
  intro p e s m below meth c s₁ B hml ht hc
  have hx := B.exec
  have hb := B.bytes
  have hr := B.returns
  have hown : s.vm.findClass R_In = some m.cls := findClass_of_methodNamed B.named
  have hlocks := B.notSynchronized
  have hT := g.tb hc
  have hK := g.k hc
  have hD := g.d (σ := σ)
  have hS : va_S (gA G) s.heap s.heap [] := va_S.rf
  have hP := hc.2.2
  have hl := lv_entry ([.int k, .int n]) (n := 2) (Nat.le_of_ble_eq_true rfl)
  rw [lg_entry_eq]
  generalize (lg_sl ([.int k, .int n]) ++ List.replicate (2 - (lg_sl ([.int k, .int n])).length) Slot.unset).toArray = ls at hl ⊢
  have hl : lv_has ls 2 [(0, .int k), (1, .int n)] := hl
  refine lv_iload_n hx hb d_In_register_0 rfl (lv_at hl 0 rfl) ?_
  refine lv_iconst (v := 2) hx hb d_In_register_1 (by decide) ?_
  refine lv_icmp_ne (tgt := 12) hx hb d_In_register_2 (by decide) (fun c2 => ?_) (fun c2 => ?_)
  · refine lv_iload_n hx hb d_In_register_12 rfl (lv_at hl 0 rfl) ?_
    refine lv_iconst (v := 1) hx hb d_In_register_13 (by decide) ?_
    refine lv_icmp_ne (tgt := 25) hx hb d_In_register_14 (by decide) (fun c14 => ?_) (fun c14 => ?_)
    · refine lv_iconst (v := (-1)) hx hb d_In_register_25 (by decide) ?_
      exact end_i (u := σ) hx hb hr hlocks hS hP d_In_register_26 (⟨by first | (simp [regF, c2, c14]; done) | (simp [regF] <;> simp_all), rfl⟩)
    · refine lv_iload_n hx hb d_In_register_17 rfl (lv_at hl 1 rfl) ?_
      refine lv_if_eq (tgt := 25) hx hb d_In_register_18 (by decide) (fun c18 => ?_) (fun c18 => ?_)
      · refine lv_iconst (v := (-1)) hx hb d_In_register_25 (by decide) ?_
        exact end_i (u := σ) hx hb hr hlocks hS hP d_In_register_26 (⟨by first | (simp [regF, c2, c14, c18]; done) | (simp [regF] <;> simp_all), rfl⟩)
      · refine lv_iload_n hx hb d_In_register_21 rfl (lv_at hl 1 rfl) ?_
        refine lv_goto (tgt := 26) hx hb d_In_register_22 (by decide) ?_
        exact end_i (u := σ) hx hb hr hlocks hS hP d_In_register_26 (⟨by first | (simp [regF, c2, c14, c18]; done) | (simp [regF] <;> simp_all), rfl⟩)
  · refine lv_bipush (v := 8) hx hb d_In_register_5 (by decide) ?_
    refine lv_iload_n hx hb d_In_register_7 rfl (lv_at hl 1 rfl) ?_
    refine lv_iconst (v := 4) hx hb d_In_register_8 (by decide) ?_
    refine lv_irem hx hb d_In_register_9 (by decide) ?_
    refine lv_iadd hx hb d_In_register_10 ?_
    exact end_i (u := σ) hx hb hr hlocks hS hP d_In_register_11 (⟨by first | (simp [regF, c2]; done) | (simp [regF] <;> simp_all), rfl⟩)

set_option maxHeartbeats 4000000 in
set_option maxRecDepth 100000 in
theorem K_Ma_floorMod {l : Launch} {G : GT} (g : GOK l G) (σ : CS) (x y : Int32) (hy : ¬ y = 0) : cx_M l y_Ma_floorMod (.code y_Ma_floorMod b_Ma_floorMod 3 (some .int)) 0 0 (gA G) [.int x, .int y] (Cw G σ) (Ri G (fun r u => r = flm x y ∧ u = σ)) (Tn) := by
  refine cx_of (by decide +kernel) ?_
  intro p e s m below meth c s₁ B hml ht hc
  have hx := B.exec
  have hb := B.bytes
  have hr := B.returns
  have hown : s.vm.findClass R_Ma = some m.cls := findClass_of_methodNamed B.named
  have hlocks := B.notSynchronized
  have hT := g.tb hc
  have hK := g.k hc
  have hD := g.d (σ := σ)
  have hS : va_S (gA G) s.heap s.heap [] := va_S.rf
  have hP := hc.2.2
  have hl := lv_entry ([.int x, .int y]) (n := 3) (Nat.le_of_ble_eq_true rfl)
  rw [lg_entry_eq]
  generalize (lg_sl ([.int x, .int y]) ++ List.replicate (3 - (lg_sl ([.int x, .int y])).length) Slot.unset).toArray = ls at hl ⊢
  have hl : lv_has ls 3 [(0, .int x), (1, .int y)] := hl
  refine lv_iload_n hx hb d_Ma_floorMod_0 rfl (lv_at hl 0 rfl) ?_
  refine lv_iload_n hx hb d_Ma_floorMod_1 rfl (lv_at hl 1 rfl) ?_
  refine lv_irem hx hb d_Ma_floorMod_2 (hy) ?_
  refine lv_istore_n (lv' := [(2, .int (x - x / y * y)), (0, .int x), (1, .int y)]) hx hb d_Ma_floorMod_3 rfl hl (by decide) rfl (fun ls hl => ?_)
  refine lv_iload_n hx hb d_Ma_floorMod_4 rfl (lv_at hl 1 rfl) ?_
  refine lv_iload_n hx hb d_Ma_floorMod_5 rfl (lv_at hl 2 rfl) ?_
  refine lv_ixor hx hb d_Ma_floorMod_6 ?_
  refine lv_if_ge (tgt := 18) hx hb d_Ma_floorMod_7 (by decide) (fun c7 => ?_) (fun c7 => ?_)
  · refine lv_iload_n hx hb d_Ma_floorMod_18 rfl (lv_at hl 0 rfl) ?_
    exact end_i (u := σ) hx hb hr hlocks hS hP d_Ma_floorMod_19 (⟨by first | (simp [flm, c7]; done) | (simp [flm] <;> simp_all), rfl⟩)
  · refine lv_iload_n hx hb d_Ma_floorMod_10 rfl (lv_at hl 0 rfl) ?_
    refine lv_if_eq (tgt := 18) hx hb d_Ma_floorMod_11 (by decide) (fun c11 => ?_) (fun c11 => ?_)
    · refine lv_iload_n hx hb d_Ma_floorMod_18 rfl (lv_at hl 0 rfl) ?_
      exact end_i (u := σ) hx hb hr hlocks hS hP d_Ma_floorMod_19 (⟨by first | (simp [flm, c7, c11]; done) | (simp [flm] <;> simp_all), rfl⟩)
    · refine lv_iload_n hx hb d_Ma_floorMod_14 rfl (lv_at hl 0 rfl) ?_
      refine lv_iload_n hx hb d_Ma_floorMod_15 rfl (lv_at hl 2 rfl) ?_
      refine lv_iadd hx hb d_Ma_floorMod_16 ?_
      exact end_i (u := σ) hx hb hr hlocks hS hP d_Ma_floorMod_17 (⟨by first | (simp [flm, c7, c11]; done) | (simp [flm] <;> simp_all), rfl⟩)

set_option maxHeartbeats 4000000 in
set_option maxRecDepth 100000 in
theorem K_In_target {l : Launch} {G : GT} (g : GOK l G) (σ : CS) {i : Nat} (hi : i < 24) : cx_M l y_In_target (.code y_In_target b_In_target 1 (some .int)) 1 22 (gA G) [.ref (gia G i)] (Cw G σ) (Ri G (fun r u => r = flm (cQ σ i 4) 24 ∧ u = σ)) (Tn) := by
  refine cx_of (by decide +kernel) ?_
  intro p e s m below meth c s₁ B hml ht hc
  have hx := B.exec
  have hb := B.bytes
  have hr := B.returns
  have hown : s.vm.findClass R_In = some m.cls := findClass_of_methodNamed B.named
  have hlocks := B.notSynchronized
  have hT := g.tb hc
  have hK := g.k hc
  have hD := g.d (σ := σ)
  have hS : va_S (gA G) s.heap s.heap [] := va_S.rf
  have hP := hc.2.2
  have hl := lv_entry ([.ref (gia G i)]) (n := 1) (Nat.le_of_ble_eq_true rfl)
  rw [lg_entry_eq]
  generalize (lg_sl ([.ref (gia G i)]) ++ List.replicate (1 - (lg_sl ([.ref (gia G i)])).length) Slot.unset).toArray = ls at hl ⊢
  have hl : lv_has ls 1 [(0, .ref (gia G i))] := hl
  refine lv_aload_n hx hb d_In_target_0 rfl (lv_at hl 0 rfl) ?_
  refine va_get (D := gD G) (ci := 3) (v := .int (cQ σ i 4)) (C := R_In) (T := F_In) (N := 8) hx hb (wl_In hT) (fun _ h9 => h9) hown hK hP (19 + i) (cw_in hi) rfl 4 (by decide) (k_154 hT) (fun _ h9 => h9) rfl d_In_target_1 ?_
  refine lv_bipush (v := 24) hx hb d_In_target_4 (by decide) ?_
  refine cx_S (n := 2) (As := [.int (cQ σ i 4), .int 24]) (rest := []) ⟨hx, hb, hml, hown, fun _ h9 => nomatch h9⟩ (K_Ma_floorMod g σ (cQ σ i 4) 24 (by decide)) (k_241 hT) (k_242 hT) (k_243 hT) (k_16 hT) rfl (by decide +kernel) (hc.at g hS hP) ⟨by decide, by decide⟩ ⟨by decide, by decide⟩ hl.1 (Nat.le_of_ble_eq_true rfl) d_In_target_6 (fun _ h9 => h9) hS (fun _ _ _ _ _ _ _ h9 => h9.elim) (fun v t H locs ht9 hRt hz hk hS => ?_)
  obtain ⟨r, u, rfl, ⟨er, eu⟩, hP⟩ := hRt
  subst er
  rw [eu, ht9] at hP
  have hD : va_D (gA G) (cw G σ) := g.d
  refine W.eq (g2 := F0 m 9 ls [.int (flm (cQ σ i 4) 24)]) rfl ?_
  exact end_i (u := σ) hx hb hr hlocks hS hP d_In_target_9 (⟨rfl, rfl⟩)

set_option maxHeartbeats 4000000 in
set_option maxRecDepth 100000 in
theorem K_In_latency {l : Launch} {G : GT} (g : GOK l G) (σ : CS) {i : Nat} (hi : i < 24) (h0 : vp_in (cQ σ i 0) 20) : cx_M l y_In_latency (.code y_In_latency b_In_latency 1 (some .int)) 0 0 (gA G) [.ref (gia G i)] (Cw G σ) (Ri G (fun r u => r = latT (ix (cQ σ i 0)) ∧ u = σ)) (Tn) := by
  refine cx_of (by decide +kernel) ?_
  intro p e s m below meth c s₁ B hml ht hc
  have hx := B.exec
  have hb := B.bytes
  have hr := B.returns
  have hown : s.vm.findClass R_In = some m.cls := findClass_of_methodNamed B.named
  have hlocks := B.notSynchronized
  have hT := g.tb hc
  have hK := g.k hc
  have hD := g.d (σ := σ)
  have hS : va_S (gA G) s.heap s.heap [] := va_S.rf
  have hP := hc.2.2
  have hl := lv_entry ([.ref (gia G i)]) (n := 1) (Nat.le_of_ble_eq_true rfl)
  rw [lg_entry_eq]
  generalize (lg_sl ([.ref (gia G i)]) ++ List.replicate (1 - (lg_sl ([.ref (gia G i)])).length) Slot.unset).toArray = ls at hl ⊢
  have hl : lv_has ls 1 [(0, .ref (gia G i))] := hl
  have hz0 := GOK.zt hc g.2.2.2.2.2.1
  refine va_getsN (v := .ref (gt G 0)) hx hb hz0.1 hS hown (k_273 hT) (fun _ h9 => h9) d_In_latency_0 ?_
  refine lv_aload_n hx hb d_In_latency_3 rfl (lv_at hl 0 rfl) ?_
  refine va_get (D := gD G) (ci := 3) (v := .int (cQ σ i 0)) (C := R_In) (T := F_In) (N := 8) hx hb (wl_In hT) (fun _ h9 => h9) hown hK hP (19 + i) (cw_in hi) rfl 0 (by decide) (k_145 hT) (fun _ h9 => h9) rfl d_In_latency_4 ?_
  refine va_ti (v := .int (latT (cQ σ i 0).toNatClampNeg)) hx hb hz0.2 hS (h0) rfl d_In_latency_7 ?_
  exact end_i (u := σ) hx hb hr hlocks hS hP d_In_latency_8 (⟨rfl, rfl⟩)

set_option maxHeartbeats 4000000 in
set_option maxRecDepth 100000 in
theorem K_In_become {l : Launch} {G : GT} (g : GOK l G) (σ : CS) {i : Nat} (hi : i < 24) (o d a b n : Int32) (h0 : vp_in o 20) : cx_M l y_In_become (.code y_In_become b_In_become 6 none) 1 21 (gA G) [.ref (gia G i), .int o, .int d, .int a, .int b, .int n] (Cw G σ) (Rv G (fun u => u = sQ σ i (becQ o d a b n))) (Tn) := by
  refine cx_of (by decide +kernel) ?_
  intro p e s m below meth c s₁ B hml ht hc
  have hx := B.exec
  have hb := B.bytes
  have hr := B.returns
  have hown : s.vm.findClass R_In = some m.cls := findClass_of_methodNamed B.named
  have hlocks := B.notSynchronized
  have hT := g.tb hc
  have hK := g.k hc
  have hD := g.d (σ := σ)
  have hS : va_S (gA G) s.heap s.heap [] := va_S.rf
  have hP := hc.2.2
  have hl := lv_entry ([.ref (gia G i), .int o, .int d, .int a, .int b, .int n]) (n := 6) (Nat.le_of_ble_eq_true rfl)
  rw [lg_entry_eq]
  generalize (lg_sl ([.ref (gia G i), .int o, .int d, .int a, .int b, .int n]) ++ List.replicate (6 - (lg_sl ([.ref (gia G i), .int o, .int d, .int a, .int b, .int n])).length) Slot.unset).toArray = ls at hl ⊢
  have hl : lv_has ls 6 [(0, .ref (gia G i)), (1, .int o), (2, .int d), (3, .int a), (4, .int b), (5, .int n)] := hl
  have hz1 := GOK.zt hc g.2.2.2.2.2.2.1
  have hz2 := GOK.zt hc g.2.2.2.2.2.2.2.1
  have hz3 := GOK.zt hc g.2.2.2.2.2.2.2.2.1
  refine lv_aload_n hx hb d_In_become_0 rfl (lv_at hl 0 rfl) ?_
  refine lv_iload_n hx hb d_In_become_1 rfl (lv_at hl 1 rfl) ?_
  refine va_put (D := gD G) (ci := 3) (v := .int o) (ty := .int) (C := R_In) (T := F_In) (N := 8) hx hb (wl_In hT) (fun _ h9 => h9) fy_In fy_In_ok fn_In hown hK hP hD hS (19 + i) (cw_in hi) rfl 0 (by decide) (k_145 hT) (fun _ h9 => h9) rfl (by decide +kernel) rfl rfl (Nat.le_of_ble_eq_true rfl) d_In_become_2 (fun H locs hP hD hS => ?_)
  have hP : va_P (gD G) classes (cw G (sQ σ i (va_up (cQ σ i) 0 o))) H := by rw [← cw_set hi (va_up (cQ σ i) 0 o)]; exact hP
  have hD : va_D (gA G) (cw G (sQ σ i (va_up (cQ σ i) 0 o))) := g.d
  refine lv_aload_n hx hb d_In_become_5 rfl (lv_at hl 0 rfl) ?_
  refine lv_iload_n hx hb d_In_become_6 rfl (lv_at hl 2 rfl) ?_
  refine va_put (D := gD G) (ci := 3) (v := .int d) (ty := .int) (C := R_In) (T := F_In) (N := 8) hx hb (wl_In hT) (fun _ h9 => h9) fy_In fy_In_ok fn_In hown hK hP hD hS (19 + i) (cw_in2 hi) rfl 1 (by decide) (k_148 hT) (fun _ h9 => h9) rfl (by decide +kernel) rfl rfl (Nat.le_of_ble_eq_true rfl) d_In_become_7 (fun H locs hP hD hS => ?_)
  have hP : va_P (gD G) classes (cw G (sQ σ i (va_up (va_up (cQ σ i) 0 o) 1 d))) H := by rw [← cw_set2 hi (va_up (va_up (cQ σ i) 0 o) 1 d)]; exact hP
  have hD : va_D (gA G) (cw G (sQ σ i (va_up (va_up (cQ σ i) 0 o) 1 d))) := g.d
  refine lv_aload_n hx hb d_In_become_10 rfl (lv_at hl 0 rfl) ?_
  refine lv_iload_n hx hb d_In_become_11 rfl (lv_at hl 3 rfl) ?_
  refine va_put (D := gD G) (ci := 3) (v := .int a) (ty := .int) (C := R_In) (T := F_In) (N := 8) hx hb (wl_In hT) (fun _ h9 => h9) fy_In fy_In_ok fn_In hown hK hP hD hS (19 + i) (cw_in2 hi) rfl 2 (by decide) (k_150 hT) (fun _ h9 => h9) rfl (by decide +kernel) rfl rfl (Nat.le_of_ble_eq_true rfl) d_In_become_12 (fun H locs hP hD hS => ?_)
  have hP : va_P (gD G) classes (cw G (sQ σ i (va_up (va_up (va_up (cQ σ i) 0 o) 1 d) 2 a))) H := by rw [← cw_set2 hi (va_up (va_up (va_up (cQ σ i) 0 o) 1 d) 2 a)]; exact hP
  have hD : va_D (gA G) (cw G (sQ σ i (va_up (va_up (va_up (cQ σ i) 0 o) 1 d) 2 a))) := g.d
  refine lv_aload_n hx hb d_In_become_15 rfl (lv_at hl 0 rfl) ?_
  refine lv_iload hx hb d_In_become_16 (lv_at hl 4 rfl) ?_
  refine va_put (D := gD G) (ci := 3) (v := .int b) (ty := .int) (C := R_In) (T := F_In) (N := 8) hx hb (wl_In hT) (fun _ h9 => h9) fy_In fy_In_ok fn_In hown hK hP hD hS (19 + i) (cw_in2 hi) rfl 3 (by decide) (k_152 hT) (fun _ h9 => h9) rfl (by decide +kernel) rfl rfl (Nat.le_of_ble_eq_true rfl) d_In_become_18 (fun H locs hP hD hS => ?_)
  have hP : va_P (gD G) classes (cw G (sQ σ i (va_up (va_up (va_up (va_up (cQ σ i) 0 o) 1 d) 2 a) 3 b))) H := by rw [← cw_set2 hi (va_up (va_up (va_up (va_up (cQ σ i) 0 o) 1 d) 2 a) 3 b)]; exact hP
  have hD : va_D (gA G) (cw G (sQ σ i (va_up (va_up (va_up (va_up (cQ σ i) 0 o) 1 d) 2 a) 3 b))) := g.d
  refine lv_aload_n hx hb d_In_become_21 rfl (lv_at hl 0 rfl) ?_
  refine lv_iload hx hb d_In_become_22 (lv_at hl 5 rfl) ?_
  refine va_put (D := gD G) (ci := 3) (v := .int n) (ty := .int) (C := R_In) (T := F_In) (N := 8) hx hb (wl_In hT) (fun _ h9 => h9) fy_In fy_In_ok fn_In hown hK hP hD hS (19 + i) (cw_in2 hi) rfl 4 (by decide) (k_154 hT) (fun _ h9 => h9) rfl (by decide +kernel) rfl rfl (Nat.le_of_ble_eq_true rfl) d_In_become_24 (fun H locs hP hD hS => ?_)
  have hP : va_P (gD G) classes (cw G (sQ σ i (va_up (va_up (va_up (va_up (va_up (cQ σ i) 0 o) 1 d) 2 a) 3 b) 4 n))) H := by rw [← cw_set2 hi (va_up (va_up (va_up (va_up (va_up (cQ σ i) 0 o) 1 d) 2 a) 3 b) 4 n)]; exact hP
  have hD : va_D (gA G) (cw G (sQ σ i (va_up (va_up (va_up (va_up (va_up (cQ σ i) 0 o) 1 d) 2 a) 3 b) 4 n))) := g.d
  refine lv_aload_n hx hb d_In_become_27 rfl (lv_at hl 0 rfl) ?_
  refine va_getsN (v := .ref (gt G 1)) hx hb hz1.1 hS hown (k_365 hT) (fun _ h9 => h9) d_In_become_28 ?_
  refine lv_aload_n hx hb d_In_become_31 rfl (lv_at hl 0 rfl) ?_
  refine va_get (D := gD G) (ci := 3) (v := .int o) (C := R_In) (T := F_In) (N := 8) hx hb (wl_In hT) (fun _ h9 => h9) hown hK hP (19 + i) (cw_in2 hi) rfl 0 (by decide) (k_145 hT) (fun _ h9 => h9) rfl d_In_become_32 ?_
  refine va_ti (v := .int (wrdT o.toNatClampNeg)) hx hb hz1.2 hS (h0) rfl d_In_become_35 ?_
  refine lv_aload_n hx hb d_In_become_36 rfl (lv_at hl 0 rfl) ?_
  refine va_get (D := gD G) (ci := 3) (v := .int d) (C := R_In) (T := F_In) (N := 8) hx hb (wl_In hT) (fun _ h9 => h9) hown hK hP (19 + i) (cw_in2 hi) rfl 1 (by decide) (k_148 hT) (fun _ h9 => h9) rfl d_In_become_37 ?_
  refine cx_S (n := 2) (As := [.int (wrdT o.toNatClampNeg), .int d]) (rest := [.ref (gia G i)]) ⟨hx, hb, hml, hown, fun _ h9 => nomatch h9⟩ (K_In_register g (sQ σ i (va_up (va_up (va_up (va_up (va_up (cQ σ i) 0 o) 1 d) 2 a) 3 b) 4 n)) (wrdT o.toNatClampNeg) d) (k_367 hT) (k_368 hT) (k_369 hT) (k_8 hT) rfl (by decide +kernel) (hc.at g hS hP) ⟨by decide, by decide⟩ ⟨by decide, by decide⟩ hl.1 (Nat.le_of_ble_eq_true rfl) d_In_become_40 (fun _ h9 => h9) hS (fun _ _ _ _ _ _ _ h9 => h9.elim) (fun v t H locs ht9 hRt hz hk hS => ?_)
  obtain ⟨r, u, rfl, ⟨er, eu⟩, hP⟩ := hRt
  subst er
  rw [eu, ht9] at hP
  have hD : va_D (gA G) (cw G (sQ σ i (va_up (va_up (va_up (va_up (va_up (cQ σ i) 0 o) 1 d) 2 a) 3 b) 4 n))) := g.d
  refine W.eq (g2 := F0 m 43 ls [.int (regF (wrdT o.toNatClampNeg) d), .ref (gia G i)]) rfl ?_
  refine va_put (D := gD G) (ci := 3) (v := .int (regF (wrdT o.toNatClampNeg) d)) (ty := .int) (C := R_In) (T := F_In) (N := 8) hx hb (wl_In hT) (fun _ h9 => h9) fy_In fy_In_ok fn_In hown hK hP hD hS (19 + i) (cw_in2 hi) rfl 5 (by decide) (k_156 hT) (fun _ h9 => h9) rfl (by decide +kernel) rfl rfl (Nat.le_of_ble_eq_true rfl) d_In_become_43 (fun H locs hP hD hS => ?_)
  have hP : va_P (gD G) classes (cw G (sQ σ i (va_up (va_up (va_up (va_up (va_up (va_up (cQ σ i) 0 o) 1 d) 2 a) 3 b) 4 n) 5 (regF (wrdT o.toNatClampNeg) d)))) H := by rw [← cw_set2 hi (va_up (va_up (va_up (va_up (va_up (va_up (cQ σ i) 0 o) 1 d) 2 a) 3 b) 4 n) 5 (regF (wrdT o.toNatClampNeg) d))]; exact hP
  have hD : va_D (gA G) (cw G (sQ σ i (va_up (va_up (va_up (va_up (va_up (va_up (cQ σ i) 0 o) 1 d) 2 a) 3 b) 4 n) 5 (regF (wrdT o.toNatClampNeg) d)))) := g.d
  refine lv_aload_n hx hb d_In_become_46 rfl (lv_at hl 0 rfl) ?_
  refine va_getsN (v := .ref (gt G 2)) hx hb hz2.1 hS hown (k_370 hT) (fun _ h9 => h9) d_In_become_47 ?_
  refine lv_aload_n hx hb d_In_become_50 rfl (lv_at hl 0 rfl) ?_
  refine va_get (D := gD G) (ci := 3) (v := .int o) (C := R_In) (T := F_In) (N := 8) hx hb (wl_In hT) (fun _ h9 => h9) hown hK hP (19 + i) (cw_in2 hi) rfl 0 (by decide) (k_145 hT) (fun _ h9 => h9) rfl d_In_become_51 ?_
  refine va_ti (v := .int (rdaT o.toNatClampNeg)) hx hb hz2.2 hS (h0) rfl d_In_become_54 ?_
  refine lv_aload_n hx hb d_In_become_55 rfl (lv_at hl 0 rfl) ?_
  refine va_get (D := gD G) (ci := 3) (v := .int a) (C := R_In) (T := F_In) (N := 8) hx hb (wl_In hT) (fun _ h9 => h9) hown hK hP (19 + i) (cw_in2 hi) rfl 2 (by decide) (k_150 hT) (fun _ h9 => h9) rfl d_In_become_56 ?_
  refine cx_S (n := 2) (As := [.int (rdaT o.toNatClampNeg), .int a]) (rest := [.ref (gia G i)]) ⟨hx, hb, hml, hown, fun _ h9 => nomatch h9⟩ (K_In_register g (sQ σ i (va_up (va_up (va_up (va_up (va_up (va_up (cQ σ i) 0 o) 1 d) 2 a) 3 b) 4 n) 5 (regF (wrdT o.toNatClampNeg) d))) (rdaT o.toNatClampNeg) a) (k_367 hT) (k_368 hT) (k_369 hT) (k_8 hT) rfl (by decide +kernel) (hc.at g hS hP) ⟨by decide, by decide⟩ ⟨by decide, by decide⟩ hl.1 (Nat.le_of_ble_eq_true rfl) d_In_become_59 (fun _ h9 => h9) hS (fun _ _ _ _ _ _ _ h9 => h9.elim) (fun v t H locs ht9 hRt hz hk hS => ?_)
  obtain ⟨r, u, rfl, ⟨er, eu⟩, hP⟩ := hRt
  subst er
  rw [eu, ht9] at hP
  have hD : va_D (gA G) (cw G (sQ σ i (va_up (va_up (va_up (va_up (va_up (va_up (cQ σ i) 0 o) 1 d) 2 a) 3 b) 4 n) 5 (regF (wrdT o.toNatClampNeg) d)))) := g.d
  refine W.eq (g2 := F0 m 62 ls [.int (regF (rdaT o.toNatClampNeg) a), .ref (gia G i)]) rfl ?_
  refine va_put (D := gD G) (ci := 3) (v := .int (regF (rdaT o.toNatClampNeg) a)) (ty := .int) (C := R_In) (T := F_In) (N := 8) hx hb (wl_In hT) (fun _ h9 => h9) fy_In fy_In_ok fn_In hown hK hP hD hS (19 + i) (cw_in2 hi) rfl 6 (by decide) (k_158 hT) (fun _ h9 => h9) rfl (by decide +kernel) rfl rfl (Nat.le_of_ble_eq_true rfl) d_In_become_62 (fun H locs hP hD hS => ?_)
  have hP : va_P (gD G) classes (cw G (sQ σ i (va_up (va_up (va_up (va_up (va_up (va_up (va_up (cQ σ i) 0 o) 1 d) 2 a) 3 b) 4 n) 5 (regF (wrdT o.toNatClampNeg) d)) 6 (regF (rdaT o.toNatClampNeg) a)))) H := by rw [← cw_set2 hi (va_up (va_up (va_up (va_up (va_up (va_up (va_up (cQ σ i) 0 o) 1 d) 2 a) 3 b) 4 n) 5 (regF (wrdT o.toNatClampNeg) d)) 6 (regF (rdaT o.toNatClampNeg) a))]; exact hP
  have hD : va_D (gA G) (cw G (sQ σ i (va_up (va_up (va_up (va_up (va_up (va_up (va_up (cQ σ i) 0 o) 1 d) 2 a) 3 b) 4 n) 5 (regF (wrdT o.toNatClampNeg) d)) 6 (regF (rdaT o.toNatClampNeg) a)))) := g.d
  refine lv_aload_n hx hb d_In_become_65 rfl (lv_at hl 0 rfl) ?_
  refine va_getsN (v := .ref (gt G 3)) hx hb hz3.1 hS hown (k_372 hT) (fun _ h9 => h9) d_In_become_66 ?_
  refine lv_aload_n hx hb d_In_become_69 rfl (lv_at hl 0 rfl) ?_
  refine va_get (D := gD G) (ci := 3) (v := .int o) (C := R_In) (T := F_In) (N := 8) hx hb (wl_In hT) (fun _ h9 => h9) hown hK hP (19 + i) (cw_in2 hi) rfl 0 (by decide) (k_145 hT) (fun _ h9 => h9) rfl d_In_become_70 ?_
  refine va_ti (v := .int (rdbT o.toNatClampNeg)) hx hb hz3.2 hS (h0) rfl d_In_become_73 ?_
  refine lv_aload_n hx hb d_In_become_74 rfl (lv_at hl 0 rfl) ?_
  refine va_get (D := gD G) (ci := 3) (v := .int b) (C := R_In) (T := F_In) (N := 8) hx hb (wl_In hT) (fun _ h9 => h9) hown hK hP (19 + i) (cw_in2 hi) rfl 3 (by decide) (k_152 hT) (fun _ h9 => h9) rfl d_In_become_75 ?_
  refine cx_S (n := 2) (As := [.int (rdbT o.toNatClampNeg), .int b]) (rest := [.ref (gia G i)]) ⟨hx, hb, hml, hown, fun _ h9 => nomatch h9⟩ (K_In_register g (sQ σ i (va_up (va_up (va_up (va_up (va_up (va_up (va_up (cQ σ i) 0 o) 1 d) 2 a) 3 b) 4 n) 5 (regF (wrdT o.toNatClampNeg) d)) 6 (regF (rdaT o.toNatClampNeg) a))) (rdbT o.toNatClampNeg) b) (k_367 hT) (k_368 hT) (k_369 hT) (k_8 hT) rfl (by decide +kernel) (hc.at g hS hP) ⟨by decide, by decide⟩ ⟨by decide, by decide⟩ hl.1 (Nat.le_of_ble_eq_true rfl) d_In_become_78 (fun _ h9 => h9) hS (fun _ _ _ _ _ _ _ h9 => h9.elim) (fun v t H locs ht9 hRt hz hk hS => ?_)
  obtain ⟨r, u, rfl, ⟨er, eu⟩, hP⟩ := hRt
  subst er
  rw [eu, ht9] at hP
  have hD : va_D (gA G) (cw G (sQ σ i (va_up (va_up (va_up (va_up (va_up (va_up (va_up (cQ σ i) 0 o) 1 d) 2 a) 3 b) 4 n) 5 (regF (wrdT o.toNatClampNeg) d)) 6 (regF (rdaT o.toNatClampNeg) a)))) := g.d
  refine W.eq (g2 := F0 m 81 ls [.int (regF (rdbT o.toNatClampNeg) b), .ref (gia G i)]) rfl ?_
  refine va_put (D := gD G) (ci := 3) (v := .int (regF (rdbT o.toNatClampNeg) b)) (ty := .int) (C := R_In) (T := F_In) (N := 8) hx hb (wl_In hT) (fun _ h9 => h9) fy_In fy_In_ok fn_In hown hK hP hD hS (19 + i) (cw_in2 hi) rfl 7 (by decide) (k_160 hT) (fun _ h9 => h9) rfl (by decide +kernel) rfl rfl (Nat.le_of_ble_eq_true rfl) d_In_become_81 (fun H locs hP hD hS => ?_)
  have hP : va_P (gD G) classes (cw G (sQ σ i (va_up (va_up (va_up (va_up (va_up (va_up (va_up (va_up (cQ σ i) 0 o) 1 d) 2 a) 3 b) 4 n) 5 (regF (wrdT o.toNatClampNeg) d)) 6 (regF (rdaT o.toNatClampNeg) a)) 7 (regF (rdbT o.toNatClampNeg) b)))) H := by rw [← cw_set2 hi (va_up (va_up (va_up (va_up (va_up (va_up (va_up (va_up (cQ σ i) 0 o) 1 d) 2 a) 3 b) 4 n) 5 (regF (wrdT o.toNatClampNeg) d)) 6 (regF (rdaT o.toNatClampNeg) a)) 7 (regF (rdbT o.toNatClampNeg) b))]; exact hP
  have hD : va_D (gA G) (cw G (sQ σ i (va_up (va_up (va_up (va_up (va_up (va_up (va_up (va_up (cQ σ i) 0 o) 1 d) 2 a) 3 b) 4 n) 5 (regF (wrdT o.toNatClampNeg) d)) 6 (regF (rdaT o.toNatClampNeg) a)) 7 (regF (rdbT o.toNatClampNeg) b)))) := g.d
  have hP : va_P (gD G) classes (cw G (sQ σ i (becQ o d a b n))) H := by rw [← cw_set hi]; rw [← cw_set hi] at hP; exact hP
  exact end_v (u := (sQ σ i (becQ o d a b n))) hx hb hr hlocks hS hP d_In_become_84 (rfl)

