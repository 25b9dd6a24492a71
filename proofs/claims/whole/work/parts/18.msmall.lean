/-! CONTRACTS OF THE REFERENCE: small methods -/
def rdM (q : Nat → Int32) (r : Int32) : Bool := if r ≤ 0 then false else if fiQ q = r then true else if seQ q = r then true else false
def tdM (q e : Nat → Int32) : Bool := if rdM e (taQ q) then true else if rdM q (taQ e) then true else if taQ q ≤ 0 then (if inF (q 0) 6 13 then inF (e 0) 6 13 else false) else if taQ q = taQ e then true else if inF (q 0) 6 13 then inF (e 0) 6 13 else false
set_option maxHeartbeats 4000000 in
set_option maxRecDepth 100000 in
theorem K_Mo_thrown {l : Launch} {G : GT} (g : MOK l G) (σ : MS) : cx_M l y_Mo_thrown (.code y_Mo_thrown b_Mo_thrown 1 (some .int)) 0 0 (gA G) [.ref (gad G 20)] (Mw G σ) (Mi G (fun r u => r = mI σ 11 ∧ u = σ)) (Tn) := by
  refine cx_of (by decide +kernel) ?_
  intro p e s m below meth c s₁ B hml ht hc
  have hx := B.exec
  have hb := B.bytes
  have hr := B.returns
  have hown : s.vm.findClass R_Mo = some m.cls := findClass_of_methodNamed B.named
  have hlocks := B.notSynchronized
  have hT := g.tb hc
  have hK := g.k hc
  have hD := g.d (τ := σ)
  have hS : va_S (gA G) s.heap s.heap [] := va_S.rf
  have hP := hc.2.2
  have hl := lv_entry ([.ref (gad G 20)]) (n := 1) (Nat.le_of_ble_eq_true rfl)
  rw [lg_entry_eq]
  generalize (lg_sl ([.ref (gad G 20)]) ++ List.replicate (1 - (lg_sl ([.ref (gad G 20)])).length) Slot.unset).toArray = ls at hl ⊢
  have hl : lv_has ls 1 [(0, .ref (gad G 20))] := hl
  refine lv_aload_n hx hb d_Mo_thrown_0 rfl (lv_at hl 0 rfl) ?_
  refine va_get (D := gD G) (ci := 7) (v := .int (mI σ 11)) (C := R_Mo) (T := F_Mo) (N := 29) hx hb (wl_Mo hT) (fun _ h9 => h9) hown hK hP 0 rfl rfl 26 (by decide) (k_596 hT) (fun _ h9 => h9) rfl d_Mo_thrown_1 ?_
  exact mend_i (u := σ) hx hb hr hlocks hS hP d_Mo_thrown_4 (⟨rfl, rfl⟩)

set_option maxHeartbeats 4000000 in
set_option maxRecDepth 100000 in
theorem K_Mo_in {l : Launch} {G : GT} (g : MOK l G) (σ : MS) (v a b : Int32) : cx_M l y_Mo_in (.code y_Mo_in b_Mo_in 3 (some .boolean)) 0 0 (gA G) [.int v, .int a, .int b] (Mw G σ) (Mi G (fun r u => r = b2i (inF v a b) ∧ u = σ)) (Tn) := by
  refine cx_of (by decide +kernel) ?_
  intro p e s m below meth c s₁ B hml ht hc
  have hx := B.exec
  have hb := B.bytes
  have hr := B.returns
  have hown : s.vm.findClass R_Mo = some m.cls := findClass_of_methodNamed B.named
  have hlocks := B.notSynchronized
  have hT := g.tb hc
  have hK := g.k hc
  have hD := g.d (τ := σ)
  have hS : va_S (gA G) s.heap s.heap [] := va_S.rf
  have hP := hc.2.2
  have hl := lv_entry ([.int v, .int a, .int b]) (n := 3) (Nat.le_of_ble_eq_true rfl)
  rw [lg_entry_eq]
  generalize (lg_sl ([.int v, .int a, .int b]) ++ List.replicate (3 - (lg_sl ([.int v, .int a, .int b])).length) Slot.unset).toArray = ls at hl ⊢
  have hl : lv_has ls 3 [(0, .int v), (1, .int a), (2, .int b)] := hl
  refine lv_iload_n hx hb d_Mo_in_0 rfl (lv_at hl 0 rfl) ?_
  refine lv_iload_n hx hb d_Mo_in_1 rfl (lv_at hl 1 rfl) ?_
  refine lv_icmp_lt (tgt := 14) hx hb d_Mo_in_2 (by decide) (fun c2 => ?_) (fun c2 => ?_)
  · refine lv_iconst (v := 0) hx hb d_Mo_in_14 (by decide) ?_
    exact mend_z (u := σ) hx hb hr hlocks hS hP d_Mo_in_15 rfl (⟨by first | (simp [inF, b2i, c2]; done) | (simp [inF, b2i, c2]; simp [inF]), rfl⟩)
  · refine lv_iload_n hx hb d_Mo_in_5 rfl (lv_at hl 0 rfl) ?_
    refine lv_iload_n hx hb d_Mo_in_6 rfl (lv_at hl 2 rfl) ?_
    refine lv_icmp_gt (tgt := 14) hx hb d_Mo_in_7 (by decide) (fun c7 => ?_) (fun c7 => ?_)
    · refine lv_iconst (v := 0) hx hb d_Mo_in_14 (by decide) ?_
      exact mend_z (u := σ) hx hb hr hlocks hS hP d_Mo_in_15 rfl (⟨by first | (simp [inF, b2i, c2, c7]; done) | (simp [inF, b2i, c2, c7]; simp [inF]), rfl⟩)
    · refine lv_iconst (v := 1) hx hb d_Mo_in_10 (by decide) ?_
      refine lv_goto (tgt := 15) hx hb d_Mo_in_11 (by decide) ?_
      exact mend_z (u := σ) hx hb hr hlocks hS hP d_Mo_in_15 rfl (⟨by first | (simp [inF, b2i, c2, c7]; done) | (simp [inF, b2i, c2, c7]; simp [inF]), rfl⟩)

set_option maxHeartbeats 4000000 in
set_option maxRecDepth 100000 in
theorem K_Mo_bad {l : Launch} {G : GT} (g : MOK l G) (σ : MS) (f : Bool) : cx_M l y_Mo_bad (.code y_Mo_bad b_Mo_bad 2 (some .boolean)) 0 0 (gA G) [.ref (gad G 20), .int (b2i f)] (Mw G σ) (Mi G (fun r u => r = b2i (!f) ∧ u = bdF σ f)) (Tn) := by
  refine cx_of (by decide +kernel) ?_
  intro p e s m below meth c s₁ B hml ht hc
  have hx := B.exec
  have hb := B.bytes
  have hr := B.returns
  have hown : s.vm.findClass R_Mo = some m.cls := findClass_of_methodNamed B.named
  have hlocks := B.notSynchronized
  have hT := g.tb hc
  have hK := g.k hc
  have hD := g.d (τ := σ)
  have hS : va_S (gA G) s.heap s.heap [] := va_S.rf
  have hP := hc.2.2
  have hl := lv_entry ([.ref (gad G 20), .int (b2i f)]) (n := 2) (Nat.le_of_ble_eq_true rfl)
  rw [lg_entry_eq]
  generalize (lg_sl ([.ref (gad G 20), .int (b2i f)]) ++ List.replicate (2 - (lg_sl ([.ref (gad G 20), .int (b2i f)])).length) Slot.unset).toArray = ls at hl ⊢
  have hl : lv_has ls 2 [(0, .ref (gad G 20)), (1, .int (b2i f))] := hl
  refine lv_aload_n hx hb d_Mo_bad_0 rfl (lv_at hl 0 rfl) ?_
  refine lv_iload_n hx hb d_Mo_bad_1 rfl (lv_at hl 1 rfl) ?_
  refine lv_if_eq (tgt := 9) hx hb d_Mo_bad_2 (by decide) (fun c2 => ?_) (fun c2 => ?_)
  · have c2 := b2i0 c2
    refine lv_iconst (v := 1) hx hb d_Mo_bad_9 (by decide) ?_
    refine va_put (D := gD G) (ci := 7) (v := .int 1) (ty := .int) (C := R_Mo) (T := F_Mo) (N := 29) hx hb (wl_Mo hT) (fun _ h9 => h9) fy_Mo fy_Mo_ok fn_Mo hown hK hP hD hS 0 rfl rfl 26 (by decide) (k_596 hT) (fun _ h9 => h9) rfl (by decide +kernel) rfl rfl (Nat.le_of_ble_eq_true rfl) d_Mo_bad_10 (fun H locs hP hD hS => ?_)
    have hP : va_P (gD G) classes (mw G (tI σ 11 1)) H := hP
    have hD : va_D (gA G) (mw G (tI σ 11 1)) := g.d
    refine lv_iload_n hx hb d_Mo_bad_13 rfl (lv_at hl 1 rfl) ?_
    refine lv_if_ne (tgt := 21) hx hb d_Mo_bad_14 (by decide) (fun c14 => ?_) (fun c14 => ?_)
    · have c14 := b2i1 c14; exact absurd c2 (by rw [c14]; decide)
    · have c14 := b2i0 c14
      refine lv_iconst (v := 1) hx hb d_Mo_bad_17 (by decide) ?_
      refine lv_goto (tgt := 22) hx hb d_Mo_bad_18 (by decide) ?_
      exact mend_z (u := (tI σ 11 1)) hx hb hr hlocks hS hP d_Mo_bad_22 rfl (⟨by rw [c14]; rfl, by rw [c14]; rfl⟩)
  · have c2 := b2i1 c2
    refine lv_iconst (v := 0) hx hb d_Mo_bad_5 (by decide) ?_
    refine lv_goto (tgt := 10) hx hb d_Mo_bad_6 (by decide) ?_
    refine va_put (D := gD G) (ci := 7) (v := .int 0) (ty := .int) (C := R_Mo) (T := F_Mo) (N := 29) hx hb (wl_Mo hT) (fun _ h9 => h9) fy_Mo fy_Mo_ok fn_Mo hown hK hP hD hS 0 rfl rfl 26 (by decide) (k_596 hT) (fun _ h9 => h9) rfl (by decide +kernel) rfl rfl (Nat.le_of_ble_eq_true rfl) d_Mo_bad_10 (fun H locs hP hD hS => ?_)
    have hP : va_P (gD G) classes (mw G (tI σ 11 0)) H := hP
    have hD : va_D (gA G) (mw G (tI σ 11 0)) := g.d
    refine lv_iload_n hx hb d_Mo_bad_13 rfl (lv_at hl 1 rfl) ?_
    refine lv_if_ne (tgt := 21) hx hb d_Mo_bad_14 (by decide) (fun c14 => ?_) (fun c14 => ?_)
    · have c14 := b2i1 c14
      refine lv_iconst (v := 0) hx hb d_Mo_bad_21 (by decide) ?_
      exact mend_z (u := (tI σ 11 0)) hx hb hr hlocks hS hP d_Mo_bad_22 rfl (⟨by rw [c14]; rfl, by rw [c14]; rfl⟩)
    · have c14 := b2i0 c14; exact absurd c2 (by rw [c14]; decide)

set_option maxHeartbeats 4000000 in
set_option maxRecDepth 100000 in
theorem K_Mo_first {l : Launch} {G : GT} (g : MOK l G) (σ : MS) (i : Int32) (h : vp_in i 24) : cx_M l y_Mo_first (.code y_Mo_first b_Mo_first 3 (some .int)) 1 22 (gA G) [.ref (gad G 20), .int i] (Mw G σ) (Mi G (fun r u => r = fiQ (mq σ (ix i)) ∧ u = σ)) (Tn) := by
  refine cx_of (by decide +kernel) ?_
  intro p e s m below meth c s₁ B hml ht hc
  have hx := B.exec
  have hb := B.bytes
  have hr := B.returns
  have hown : s.vm.findClass R_Mo = some m.cls := findClass_of_methodNamed B.named
  have hlocks := B.notSynchronized
  have hT := g.tb hc
  have hK := g.k hc
  have hD := g.d (τ := σ)
  have hS : va_S (gA G) s.heap s.heap [] := va_S.rf
  have hP := hc.2.2
  have hl := lv_entry ([.ref (gad G 20), .int i]) (n := 3) (Nat.le_of_ble_eq_true rfl)
  rw [lg_entry_eq]
  generalize (lg_sl ([.ref (gad G 20), .int i]) ++ List.replicate (3 - (lg_sl ([.ref (gad G 20), .int i])).length) Slot.unset).toArray = ls at hl ⊢
  have hl : lv_has ls 3 [(0, .ref (gad G 20)), (1, .int i)] := hl
  refine lv_aload_n hx hb d_Mo_first_0 rfl (lv_at hl 0 rfl) ?_
  refine va_get (D := gD G) (ci := 7) (v := .ref (gad G 21)) (C := R_Mo) (T := F_Mo) (N := 29) hx hb (wl_Mo hT) (fun _ h9 => h9) hown hK hP 0 rfl rfl 0 (by decide) (k_570 hT) (fun _ h9 => h9) rfl d_Mo_first_1 ?_
  refine lv_iload_n hx hb d_Mo_first_4 rfl (lv_at hl 1 rfl) ?_
  refine va_iald (f := (mJ σ 6)) hx hb hK hP 1 0 rfl rfl (h) d_Mo_first_5 ?_
  refine lv_istore_n (lv' := [(2, .int ((mJ σ 6) i.toNatClampNeg)), (0, .ref (gad G 20)), (1, .int i)]) hx hb d_Mo_first_6 rfl hl (by decide) rfl (fun ls hl => ?_)
  refine lv_iload_n hx hb d_Mo_first_7 rfl (lv_at hl 0 rfl) ?_
  refine lv_if_eq (tgt := 17) hx hb d_Mo_first_8 (by decide) (fun c8 => ?_) (fun c8 => ?_)
  · refine lv_iconst (v := 0) hx hb d_Mo_first_17 (by decide) ?_
    exact mend_i (u := σ) hx hb hr hlocks hS hP d_Mo_first_18 (⟨by first | (simp [fiQ, mq, ix, r4, c8]; done) | (simp [fiQ, mq, ix, r4, c8]; simp [inF]), rfl⟩)
  · refine lv_iload_n hx hb d_Mo_first_11 rfl (lv_at hl 0 rfl) ?_
    refine lv_bipush (v := 19) hx hb d_Mo_first_12 (by decide) ?_
    refine lv_icmp_ne (tgt := 19) hx hb d_Mo_first_14 (by decide) (fun c14 => ?_) (fun c14 => ?_)
    · refine lv_iload_n hx hb d_Mo_first_19 rfl (lv_at hl 0 rfl) ?_
      refine lv_bipush (v := 10) hx hb d_Mo_first_20 (by decide) ?_
      refine lv_bipush (v := 14) hx hb d_Mo_first_22 (by decide) ?_
      refine cx_S (n := 3) (As := [.int ((mJ σ 6) i.toNatClampNeg), .int 10, .int 14]) (rest := []) ⟨hx, hb, hml, hown, fun _ h9 => nomatch h9⟩ (K_Mo_in g σ ((mJ σ 6) i.toNatClampNeg) 10 14 ) (k_666 hT) (k_667 hT) (k_668 hT) (k_9 hT) rfl (by decide +kernel) (hc.at g hS hP) ⟨by decide, by decide⟩ ⟨by decide, by decide⟩ hl.1 (Nat.le_of_ble_eq_true rfl) d_Mo_first_24 (fun _ h9 => h9) hS (fun _ _ _ _ _ _ _ h9 => h9.elim) (fun v t H locs ht9 hRt hz hk hS => ?_)
      obtain ⟨r, u, rfl, ⟨er, eu⟩, hP⟩ := hRt
      subst er
      rw [eu, ht9] at hP
      have hD : va_D (gA G) (mw G σ) := g.d
      refine W.eq (g2 := F0 m 27 ls [.int (b2i (inF ((mJ σ 6) i.toNatClampNeg) 10 14))]) rfl ?_
      refine lv_if_ne (tgt := 36) hx hb d_Mo_first_27 (by decide) (fun c27 => ?_) (fun c27 => ?_)
      · have c27 := b2i1 c27
        refine lv_bipush (v := 8) hx hb d_Mo_first_36 (by decide) ?_
        refine lv_aload_n hx hb d_Mo_first_38 rfl (lv_at hl 1 rfl) ?_
        refine va_get (D := gD G) (ci := 7) (v := .ref (gad G 23)) (C := R_Mo) (T := F_Mo) (N := 29) hx hb (wl_Mo hT) (fun _ h9 => h9) hown hK hP 0 rfl rfl 2 (by decide) (k_572 hT) (fun _ h9 => h9) rfl d_Mo_first_39 ?_
        refine lv_iload_n hx hb d_Mo_first_42 rfl (lv_at hl 2 rfl) ?_
        refine va_iald (f := (mJ σ 8)) hx hb hK hP 3 0 rfl rfl (h) d_Mo_first_43 ?_
        refine lv_iconst (v := 4) hx hb d_Mo_first_44 (by decide) ?_
        refine lv_irem hx hb d_Mo_first_45 (by decide) ?_
        refine lv_iadd hx hb d_Mo_first_46 ?_
        refine lv_goto (tgt := 56) hx hb d_Mo_first_47 (by decide) ?_
        exact mend_i (u := σ) hx hb hr hlocks hS hP d_Mo_first_56 (⟨by first | (simp [fiQ, mq, ix, r4, c8, c14, c27]; done) | (simp [fiQ, mq, ix, r4, c8, c14, c27]; simp [inF]), rfl⟩)
      · have c27 := b2i0 c27
        refine lv_iload_n hx hb d_Mo_first_30 rfl (lv_at hl 0 rfl) ?_
        refine lv_bipush (v := 16) hx hb d_Mo_first_31 (by decide) ?_
        refine lv_icmp_ne (tgt := 50) hx hb d_Mo_first_33 (by decide) (fun c33 => ?_) (fun c33 => ?_)
        · refine lv_aload_n hx hb d_Mo_first_50 rfl (lv_at hl 1 rfl) ?_
          refine va_get (D := gD G) (ci := 7) (v := .ref (gad G 23)) (C := R_Mo) (T := F_Mo) (N := 29) hx hb (wl_Mo hT) (fun _ h9 => h9) hown hK hP 0 rfl rfl 2 (by decide) (k_572 hT) (fun _ h9 => h9) rfl d_Mo_first_51 ?_
          refine lv_iload_n hx hb d_Mo_first_54 rfl (lv_at hl 2 rfl) ?_
          refine va_iald (f := (mJ σ 8)) hx hb hK hP 3 0 rfl rfl (h) d_Mo_first_55 ?_
          exact mend_i (u := σ) hx hb hr hlocks hS hP d_Mo_first_56 (⟨by first | (simp [fiQ, mq, ix, r4, c8, c14, c27, c33]; done) | (simp [fiQ, mq, ix, r4, c8, c14, c27, c33]; simp [inF]), rfl⟩)
        · refine lv_bipush (v := 8) hx hb d_Mo_first_36 (by decide) ?_
          refine lv_aload_n hx hb d_Mo_first_38 rfl (lv_at hl 1 rfl) ?_
          refine va_get (D := gD G) (ci := 7) (v := .ref (gad G 23)) (C := R_Mo) (T := F_Mo) (N := 29) hx hb (wl_Mo hT) (fun _ h9 => h9) hown hK hP 0 rfl rfl 2 (by decide) (k_572 hT) (fun _ h9 => h9) rfl d_Mo_first_39 ?_
          refine lv_iload_n hx hb d_Mo_first_42 rfl (lv_at hl 2 rfl) ?_
          refine va_iald (f := (mJ σ 8)) hx hb hK hP 3 0 rfl rfl (h) d_Mo_first_43 ?_
          refine lv_iconst (v := 4) hx hb d_Mo_first_44 (by decide) ?_
          refine lv_irem hx hb d_Mo_first_45 (by decide) ?_
          refine lv_iadd hx hb d_Mo_first_46 ?_
          refine lv_goto (tgt := 56) hx hb d_Mo_first_47 (by decide) ?_
          exact mend_i (u := σ) hx hb hr hlocks hS hP d_Mo_first_56 (⟨by first | (simp [fiQ, mq, ix, r4, c8, c14, c27, c33]; done) | (simp [fiQ, mq, ix, r4, c8, c14, c27, c33]; simp [inF]), rfl⟩)
    · refine lv_iconst (v := 0) hx hb d_Mo_first_17 (by decide) ?_
      exact mend_i (u := σ) hx hb hr hlocks hS hP d_Mo_first_18 (⟨by first | (simp [fiQ, mq, ix, r4, c8, c14]; done) | (simp [fiQ, mq, ix, r4, c8, c14]; simp [inF]), rfl⟩)

set_option maxHeartbeats 4000000 in
set_option maxRecDepth 100000 in
theorem K_Mo_second {l : Launch} {G : GT} (g : MOK l G) (σ : MS) (i : Int32) (h : vp_in i 24) : cx_M l y_Mo_second (.code y_Mo_second b_Mo_second 3 (some .int)) 1 22 (gA G) [.ref (gad G 20), .int i] (Mw G σ) (Mi G (fun r u => r = seQ (mq σ (ix i)) ∧ u = σ)) (Tn) := by
  refine cx_of (by decide +kernel) ?_
  intro p e s m below meth c s₁ B hml ht hc
  have hx := B.exec
  have hb := B.bytes
  have hr := B.returns
  have hown : s.vm.findClass R_Mo = some m.cls := findClass_of_methodNamed B.named
  have hlocks := B.notSynchronized
  have hT := g.tb hc
  have hK := g.k hc
  have hD := g.d (τ := σ)
  have hS : va_S (gA G) s.heap s.heap [] := va_S.rf
  have hP := hc.2.2
  have hl := lv_entry ([.ref (gad G 20), .int i]) (n := 3) (Nat.le_of_ble_eq_true rfl)
  rw [lg_entry_eq]
  generalize (lg_sl ([.ref (gad G 20), .int i]) ++ List.replicate (3 - (lg_sl ([.ref (gad G 20), .int i])).length) Slot.unset).toArray = ls at hl ⊢
  have hl : lv_has ls 3 [(0, .ref (gad G 20)), (1, .int i)] := hl
  refine lv_aload_n hx hb d_Mo_second_0 rfl (lv_at hl 0 rfl) ?_
  refine va_get (D := gD G) (ci := 7) (v := .ref (gad G 21)) (C := R_Mo) (T := F_Mo) (N := 29) hx hb (wl_Mo hT) (fun _ h9 => h9) hown hK hP 0 rfl rfl 0 (by decide) (k_570 hT) (fun _ h9 => h9) rfl d_Mo_second_1 ?_
  refine lv_iload_n hx hb d_Mo_second_4 rfl (lv_at hl 1 rfl) ?_
  refine va_iald (f := (mJ σ 6)) hx hb hK hP 1 0 rfl rfl (h) d_Mo_second_5 ?_
  refine lv_istore_n (lv' := [(2, .int ((mJ σ 6) i.toNatClampNeg)), (0, .ref (gad G 20)), (1, .int i)]) hx hb d_Mo_second_6 rfl hl (by decide) rfl (fun ls hl => ?_)
  refine lv_iload_n hx hb d_Mo_second_7 rfl (lv_at hl 0 rfl) ?_
  refine lv_iconst (v := 2) hx hb d_Mo_second_8 (by decide) ?_
  refine lv_iconst (v := 5) hx hb d_Mo_second_9 (by decide) ?_
  refine cx_S (n := 3) (As := [.int ((mJ σ 6) i.toNatClampNeg), .int 2, .int 5]) (rest := []) ⟨hx, hb, hml, hown, fun _ h9 => nomatch h9⟩ (K_Mo_in g σ ((mJ σ 6) i.toNatClampNeg) 2 5 ) (k_666 hT) (k_667 hT) (k_668 hT) (k_9 hT) rfl (by decide +kernel) (hc.at g hS hP) ⟨by decide, by decide⟩ ⟨by decide, by decide⟩ hl.1 (Nat.le_of_ble_eq_true rfl) d_Mo_second_10 (fun _ h9 => h9) hS (fun _ _ _ _ _ _ _ h9 => h9.elim) (fun v t H locs ht9 hRt hz hk hS => ?_)
  obtain ⟨r, u, rfl, ⟨er, eu⟩, hP⟩ := hRt
  subst er
  rw [eu, ht9] at hP
  have hD : va_D (gA G) (mw G σ) := g.d
  refine W.eq (g2 := F0 m 13 ls [.int (b2i (inF ((mJ σ 6) i.toNatClampNeg) 2 5))]) rfl ?_
  refine lv_if_ne (tgt := 34) hx hb d_Mo_second_13 (by decide) (fun c13 => ?_) (fun c13 => ?_)
  · have c13 := b2i1 c13
    refine lv_aload_n hx hb d_Mo_second_34 rfl (lv_at hl 1 rfl) ?_
    refine va_get (D := gD G) (ci := 7) (v := .ref (gad G 24)) (C := R_Mo) (T := F_Mo) (N := 29) hx hb (wl_Mo hT) (fun _ h9 => h9) hown hK hP 0 rfl rfl 3 (by decide) (k_573 hT) (fun _ h9 => h9) rfl d_Mo_second_35 ?_
    refine lv_iload_n hx hb d_Mo_second_38 rfl (lv_at hl 2 rfl) ?_
    refine va_iald (f := (mJ σ 9)) hx hb hK hP 4 0 rfl rfl (h) d_Mo_second_39 ?_
    exact mend_i (u := σ) hx hb hr hlocks hS hP d_Mo_second_40 (⟨by first | (simp [seQ, mq, ix, r4, c13]; done) | (simp [seQ, mq, ix, r4, c13]; simp [inF]), rfl⟩)
  · have c13 := b2i0 c13
    refine lv_iload_n hx hb d_Mo_second_16 rfl (lv_at hl 0 rfl) ?_
    refine lv_bipush (v := 7) hx hb d_Mo_second_17 (by decide) ?_
    refine lv_icmp_eq (tgt := 34) hx hb d_Mo_second_19 (by decide) (fun c19 => ?_) (fun c19 => ?_)
    · refine lv_aload_n hx hb d_Mo_second_34 rfl (lv_at hl 1 rfl) ?_
      refine va_get (D := gD G) (ci := 7) (v := .ref (gad G 24)) (C := R_Mo) (T := F_Mo) (N := 29) hx hb (wl_Mo hT) (fun _ h9 => h9) hown hK hP 0 rfl rfl 3 (by decide) (k_573 hT) (fun _ h9 => h9) rfl d_Mo_second_35 ?_
      refine lv_iload_n hx hb d_Mo_second_38 rfl (lv_at hl 2 rfl) ?_
      refine va_iald (f := (mJ σ 9)) hx hb hK hP 4 0 rfl rfl (h) d_Mo_second_39 ?_
      exact mend_i (u := σ) hx hb hr hlocks hS hP d_Mo_second_40 (⟨by first | (simp [seQ, mq, ix, r4, c13, c19]; done) | (simp [seQ, mq, ix, r4, c13, c19]; simp [inF]), rfl⟩)
    · refine lv_iload_n hx hb d_Mo_second_22 rfl (lv_at hl 0 rfl) ?_
      refine lv_bipush (v := 17) hx hb d_Mo_second_23 (by decide) ?_
      refine lv_icmp_eq (tgt := 34) hx hb d_Mo_second_25 (by decide) (fun c25 => ?_) (fun c25 => ?_)
      · refine lv_aload_n hx hb d_Mo_second_34 rfl (lv_at hl 1 rfl) ?_
        refine va_get (D := gD G) (ci := 7) (v := .ref (gad G 24)) (C := R_Mo) (T := F_Mo) (N := 29) hx hb (wl_Mo hT) (fun _ h9 => h9) hown hK hP 0 rfl rfl 3 (by decide) (k_573 hT) (fun _ h9 => h9) rfl d_Mo_second_35 ?_
        refine lv_iload_n hx hb d_Mo_second_38 rfl (lv_at hl 2 rfl) ?_
        refine va_iald (f := (mJ σ 9)) hx hb hK hP 4 0 rfl rfl (h) d_Mo_second_39 ?_
        exact mend_i (u := σ) hx hb hr hlocks hS hP d_Mo_second_40 (⟨by first | (simp [seQ, mq, ix, r4, c13, c19, c25]; done) | (simp [seQ, mq, ix, r4, c13, c19, c25]; simp [inF]), rfl⟩)
      · refine lv_iload_n hx hb d_Mo_second_28 rfl (lv_at hl 0 rfl) ?_
        refine lv_bipush (v := 18) hx hb d_Mo_second_29 (by decide) ?_
        refine lv_icmp_ne (tgt := 41) hx hb d_Mo_second_31 (by decide) (fun c31 => ?_) (fun c31 => ?_)
        · refine lv_iload_n hx hb d_Mo_second_41 rfl (lv_at hl 0 rfl) ?_
          refine lv_bipush (v := 9) hx hb d_Mo_second_42 (by decide) ?_
          refine lv_icmp_eq (tgt := 58) hx hb d_Mo_second_44 (by decide) (fun c44 => ?_) (fun c44 => ?_)
          · refine lv_bipush (v := 8) hx hb d_Mo_second_58 (by decide) ?_
            refine lv_aload_n hx hb d_Mo_second_60 rfl (lv_at hl 1 rfl) ?_
            refine va_get (D := gD G) (ci := 7) (v := .ref (gad G 24)) (C := R_Mo) (T := F_Mo) (N := 29) hx hb (wl_Mo hT) (fun _ h9 => h9) hown hK hP 0 rfl rfl 3 (by decide) (k_573 hT) (fun _ h9 => h9) rfl d_Mo_second_61 ?_
            refine lv_iload_n hx hb d_Mo_second_64 rfl (lv_at hl 2 rfl) ?_
            refine va_iald (f := (mJ σ 9)) hx hb hK hP 4 0 rfl rfl (h) d_Mo_second_65 ?_
            refine lv_iconst (v := 4) hx hb d_Mo_second_66 (by decide) ?_
            refine lv_irem hx hb d_Mo_second_67 (by decide) ?_
            refine lv_iadd hx hb d_Mo_second_68 ?_
            refine lv_goto (tgt := 73) hx hb d_Mo_second_69 (by decide) ?_
            exact mend_i (u := σ) hx hb hr hlocks hS hP d_Mo_second_73 (⟨by first | (simp [seQ, mq, ix, r4, c13, c19, c25, c31, c44]; done) | (simp [seQ, mq, ix, r4, c13, c19, c25, c31, c44]; simp [inF]), rfl⟩)
          · refine lv_iload_n hx hb d_Mo_second_47 rfl (lv_at hl 0 rfl) ?_
            refine lv_bipush (v := 10) hx hb d_Mo_second_48 (by decide) ?_
            refine lv_bipush (v := 14) hx hb d_Mo_second_50 (by decide) ?_
            refine cx_S (n := 3) (As := [.int ((mJ σ 6) i.toNatClampNeg), .int 10, .int 14]) (rest := []) ⟨hx, hb, hml, hown, fun _ h9 => nomatch h9⟩ (K_Mo_in g σ ((mJ σ 6) i.toNatClampNeg) 10 14 ) (k_666 hT) (k_667 hT) (k_668 hT) (k_9 hT) rfl (by decide +kernel) (hc.at g hS hP) ⟨by decide, by decide⟩ ⟨by decide, by decide⟩ hl.1 (Nat.le_of_ble_eq_true rfl) d_Mo_second_52 (fun _ h9 => h9) hS (fun _ _ _ _ _ _ _ h9 => h9.elim) (fun v t H locs ht9 hRt hz hk hS => ?_)
            obtain ⟨r, u, rfl, ⟨er, eu⟩, hP⟩ := hRt
            subst er
            rw [eu, ht9] at hP
            have hD : va_D (gA G) (mw G σ) := g.d
            refine W.eq (g2 := F0 m 55 ls [.int (b2i (inF ((mJ σ 6) i.toNatClampNeg) 10 14))]) rfl ?_
            refine lv_if_eq (tgt := 72) hx hb d_Mo_second_55 (by decide) (fun c55 => ?_) (fun c55 => ?_)
            · have c55 := b2i0 c55
              refine lv_iconst (v := 0) hx hb d_Mo_second_72 (by decide) ?_
              exact mend_i (u := σ) hx hb hr hlocks hS hP d_Mo_second_73 (⟨by first | (simp [seQ, mq, ix, r4, c13, c19, c25, c31, c44, c55]; done) | (simp [seQ, mq, ix, r4, c13, c19, c25, c31, c44, c55]; simp [inF]), rfl⟩)
            · have c55 := b2i1 c55
              refine lv_bipush (v := 8) hx hb d_Mo_second_58 (by decide) ?_
              refine lv_aload_n hx hb d_Mo_second_60 rfl (lv_at hl 1 rfl) ?_
              refine va_get (D := gD G) (ci := 7) (v := .ref (gad G 24)) (C := R_Mo) (T := F_Mo) (N := 29) hx hb (wl_Mo hT) (fun _ h9 => h9) hown hK hP 0 rfl rfl 3 (by decide) (k_573 hT) (fun _ h9 => h9) rfl d_Mo_second_61 ?_
              refine lv_iload_n hx hb d_Mo_second_64 rfl (lv_at hl 2 rfl) ?_
              refine va_iald (f := (mJ σ 9)) hx hb hK hP 4 0 rfl rfl (h) d_Mo_second_65 ?_
              refine lv_iconst (v := 4) hx hb d_Mo_second_66 (by decide) ?_
              refine lv_irem hx hb d_Mo_second_67 (by decide) ?_
              refine lv_iadd hx hb d_Mo_second_68 ?_
              refine lv_goto (tgt := 73) hx hb d_Mo_second_69 (by decide) ?_
              exact mend_i (u := σ) hx hb hr hlocks hS hP d_Mo_second_73 (⟨by first | (simp [seQ, mq, ix, r4, c13, c19, c25, c31, c44, c55]; done) | (simp [seQ, mq, ix, r4, c13, c19, c25, c31, c44, c55]; simp [inF]), rfl⟩)
        · refine lv_aload_n hx hb d_Mo_second_34 rfl (lv_at hl 1 rfl) ?_
          refine va_get (D := gD G) (ci := 7) (v := .ref (gad G 24)) (C := R_Mo) (T := F_Mo) (N := 29) hx hb (wl_Mo hT) (fun _ h9 => h9) hown hK hP 0 rfl rfl 3 (by decide) (k_573 hT) (fun _ h9 => h9) rfl d_Mo_second_35 ?_
          refine lv_iload_n hx hb d_Mo_second_38 rfl (lv_at hl 2 rfl) ?_
          refine va_iald (f := (mJ σ 9)) hx hb hK hP 4 0 rfl rfl (h) d_Mo_second_39 ?_
          exact mend_i (u := σ) hx hb hr hlocks hS hP d_Mo_second_40 (⟨by first | (simp [seQ, mq, ix, r4, c13, c19, c25, c31]; done) | (simp [seQ, mq, ix, r4, c13, c19, c25, c31]; simp [inF]), rfl⟩)

set_option maxHeartbeats 4000000 in
set_option maxRecDepth 100000 in
theorem K_Mo_target {l : Launch} {G : GT} (g : MOK l G) (σ : MS) (i : Int32) (h : vp_in i 24) : cx_M l y_Mo_target (.code y_Mo_target b_Mo_target 3 (some .int)) 1 22 (gA G) [.ref (gad G 20), .int i] (Mw G σ) (Mi G (fun r u => r = taQ (mq σ (ix i)) ∧ u = σ)) (Tn) := by
  refine cx_of (by decide +kernel) ?_
  intro p e s m below meth c s₁ B hml ht hc
  have hx := B.exec
  have hb := B.bytes
  have hr := B.returns
  have hown : s.vm.findClass R_Mo = some m.cls := findClass_of_methodNamed B.named
  have hlocks := B.notSynchronized
  have hT := g.tb hc
  have hK := g.k hc
  have hD := g.d (τ := σ)
  have hS : va_S (gA G) s.heap s.heap [] := va_S.rf
  have hP := hc.2.2
  have hl := lv_entry ([.ref (gad G 20), .int i]) (n := 3) (Nat.le_of_ble_eq_true rfl)
  rw [lg_entry_eq]
  generalize (lg_sl ([.ref (gad G 20), .int i]) ++ List.replicate (3 - (lg_sl ([.ref (gad G 20), .int i])).length) Slot.unset).toArray = ls at hl ⊢
  have hl : lv_has ls 3 [(0, .ref (gad G 20)), (1, .int i)] := hl
  refine lv_aload_n hx hb d_Mo_target_0 rfl (lv_at hl 0 rfl) ?_
  refine va_get (D := gD G) (ci := 7) (v := .ref (gad G 21)) (C := R_Mo) (T := F_Mo) (N := 29) hx hb (wl_Mo hT) (fun _ h9 => h9) hown hK hP 0 rfl rfl 0 (by decide) (k_570 hT) (fun _ h9 => h9) rfl d_Mo_target_1 ?_
  refine lv_iload_n hx hb d_Mo_target_4 rfl (lv_at hl 1 rfl) ?_
  refine va_iald (f := (mJ σ 6)) hx hb hK hP 1 0 rfl rfl (h) d_Mo_target_5 ?_
  refine lv_istore_n (lv' := [(2, .int ((mJ σ 6) i.toNatClampNeg)), (0, .ref (gad G 20)), (1, .int i)]) hx hb d_Mo_target_6 rfl hl (by decide) rfl (fun ls hl => ?_)
  refine lv_iload_n hx hb d_Mo_target_7 rfl (lv_at hl 0 rfl) ?_
  refine lv_iconst (v := 1) hx hb d_Mo_target_8 (by decide) ?_
  refine lv_bipush (v := 6) hx hb d_Mo_target_9 (by decide) ?_
  refine cx_S (n := 3) (As := [.int ((mJ σ 6) i.toNatClampNeg), .int 1, .int 6]) (rest := []) ⟨hx, hb, hml, hown, fun _ h9 => nomatch h9⟩ (K_Mo_in g σ ((mJ σ 6) i.toNatClampNeg) 1 6 ) (k_666 hT) (k_667 hT) (k_668 hT) (k_9 hT) rfl (by decide +kernel) (hc.at g hS hP) ⟨by decide, by decide⟩ ⟨by decide, by decide⟩ hl.1 (Nat.le_of_ble_eq_true rfl) d_Mo_target_11 (fun _ h9 => h9) hS (fun _ _ _ _ _ _ _ h9 => h9.elim) (fun v t H locs ht9 hRt hz hk hS => ?_)
  obtain ⟨r, u, rfl, ⟨er, eu⟩, hP⟩ := hRt
  subst er
  rw [eu, ht9] at hP
  have hD : va_D (gA G) (mw G σ) := g.d
  refine W.eq (g2 := F0 m 14 ls [.int (b2i (inF ((mJ σ 6) i.toNatClampNeg) 1 6))]) rfl ?_
  refine lv_if_ne (tgt := 29) hx hb d_Mo_target_14 (by decide) (fun c14 => ?_) (fun c14 => ?_)
  · have c14 := b2i1 c14
    refine lv_aload_n hx hb d_Mo_target_29 rfl (lv_at hl 1 rfl) ?_
    refine va_get (D := gD G) (ci := 7) (v := .ref (gad G 22)) (C := R_Mo) (T := F_Mo) (N := 29) hx hb (wl_Mo hT) (fun _ h9 => h9) hown hK hP 0 rfl rfl 1 (by decide) (k_571 hT) (fun _ h9 => h9) rfl d_Mo_target_30 ?_
    refine lv_iload_n hx hb d_Mo_target_33 rfl (lv_at hl 2 rfl) ?_
    refine va_iald (f := (mJ σ 7)) hx hb hK hP 2 0 rfl rfl (h) d_Mo_target_34 ?_
    exact mend_i (u := σ) hx hb hr hlocks hS hP d_Mo_target_35 (⟨by first | (simp [taQ, mq, ix, r4, c14]; done) | (simp [taQ, mq, ix, r4, c14]; simp [inF]), rfl⟩)
  · have c14 := b2i0 c14
    refine lv_iload_n hx hb d_Mo_target_17 rfl (lv_at hl 0 rfl) ?_
    refine lv_bipush (v := 14) hx hb d_Mo_target_18 (by decide) ?_
    refine lv_icmp_eq (tgt := 29) hx hb d_Mo_target_20 (by decide) (fun c20 => ?_) (fun c20 => ?_)
    · refine lv_aload_n hx hb d_Mo_target_29 rfl (lv_at hl 1 rfl) ?_
      refine va_get (D := gD G) (ci := 7) (v := .ref (gad G 22)) (C := R_Mo) (T := F_Mo) (N := 29) hx hb (wl_Mo hT) (fun _ h9 => h9) hown hK hP 0 rfl rfl 1 (by decide) (k_571 hT) (fun _ h9 => h9) rfl d_Mo_target_30 ?_
      refine lv_iload_n hx hb d_Mo_target_33 rfl (lv_at hl 2 rfl) ?_
      refine va_iald (f := (mJ σ 7)) hx hb hK hP 2 0 rfl rfl (h) d_Mo_target_34 ?_
      exact mend_i (u := σ) hx hb hr hlocks hS hP d_Mo_target_35 (⟨by first | (simp [taQ, mq, ix, r4, c14, c20]; done) | (simp [taQ, mq, ix, r4, c14, c20]; simp [inF]), rfl⟩)
    · refine lv_iload_n hx hb d_Mo_target_23 rfl (lv_at hl 0 rfl) ?_
      refine lv_bipush (v := 16) hx hb d_Mo_target_24 (by decide) ?_
      refine lv_icmp_ne (tgt := 36) hx hb d_Mo_target_26 (by decide) (fun c26 => ?_) (fun c26 => ?_)
      · refine lv_iload_n hx hb d_Mo_target_36 rfl (lv_at hl 0 rfl) ?_
        refine lv_bipush (v := 8) hx hb d_Mo_target_37 (by decide) ?_
        refine lv_icmp_eq (tgt := 59) hx hb d_Mo_target_39 (by decide) (fun c39 => ?_) (fun c39 => ?_)
        · refine lv_bipush (v := 8) hx hb d_Mo_target_59 (by decide) ?_
          refine lv_aload_n hx hb d_Mo_target_61 rfl (lv_at hl 1 rfl) ?_
          refine va_get (D := gD G) (ci := 7) (v := .ref (gad G 22)) (C := R_Mo) (T := F_Mo) (N := 29) hx hb (wl_Mo hT) (fun _ h9 => h9) hown hK hP 0 rfl rfl 1 (by decide) (k_571 hT) (fun _ h9 => h9) rfl d_Mo_target_62 ?_
          refine lv_iload_n hx hb d_Mo_target_65 rfl (lv_at hl 2 rfl) ?_
          refine va_iald (f := (mJ σ 7)) hx hb hK hP 2 0 rfl rfl (h) d_Mo_target_66 ?_
          refine lv_iconst (v := 4) hx hb d_Mo_target_67 (by decide) ?_
          refine lv_irem hx hb d_Mo_target_68 (by decide) ?_
          refine lv_iadd hx hb d_Mo_target_69 ?_
          refine lv_goto (tgt := 74) hx hb d_Mo_target_70 (by decide) ?_
          exact mend_i (u := σ) hx hb hr hlocks hS hP d_Mo_target_74 (⟨by first | (simp [taQ, mq, ix, r4, c14, c20, c26, c39]; done) | (simp [taQ, mq, ix, r4, c14, c20, c26, c39]; simp [inF]), rfl⟩)
        · refine lv_iload_n hx hb d_Mo_target_42 rfl (lv_at hl 0 rfl) ?_
          refine lv_bipush (v := 10) hx hb d_Mo_target_43 (by decide) ?_
          refine lv_bipush (v := 13) hx hb d_Mo_target_45 (by decide) ?_
          refine cx_S (n := 3) (As := [.int ((mJ σ 6) i.toNatClampNeg), .int 10, .int 13]) (rest := []) ⟨hx, hb, hml, hown, fun _ h9 => nomatch h9⟩ (K_Mo_in g σ ((mJ σ 6) i.toNatClampNeg) 10 13 ) (k_666 hT) (k_667 hT) (k_668 hT) (k_9 hT) rfl (by decide +kernel) (hc.at g hS hP) ⟨by decide, by decide⟩ ⟨by decide, by decide⟩ hl.1 (Nat.le_of_ble_eq_true rfl) d_Mo_target_47 (fun _ h9 => h9) hS (fun _ _ _ _ _ _ _ h9 => h9.elim) (fun v t H locs ht9 hRt hz hk hS => ?_)
          obtain ⟨r, u, rfl, ⟨er, eu⟩, hP⟩ := hRt
          subst er
          rw [eu, ht9] at hP
          have hD : va_D (gA G) (mw G σ) := g.d
          refine W.eq (g2 := F0 m 50 ls [.int (b2i (inF ((mJ σ 6) i.toNatClampNeg) 10 13))]) rfl ?_
          refine lv_if_ne (tgt := 59) hx hb d_Mo_target_50 (by decide) (fun c50 => ?_) (fun c50 => ?_)
          · have c50 := b2i1 c50
            refine lv_bipush (v := 8) hx hb d_Mo_target_59 (by decide) ?_
            refine lv_aload_n hx hb d_Mo_target_61 rfl (lv_at hl 1 rfl) ?_
            refine va_get (D := gD G) (ci := 7) (v := .ref (gad G 22)) (C := R_Mo) (T := F_Mo) (N := 29) hx hb (wl_Mo hT) (fun _ h9 => h9) hown hK hP 0 rfl rfl 1 (by decide) (k_571 hT) (fun _ h9 => h9) rfl d_Mo_target_62 ?_
            refine lv_iload_n hx hb d_Mo_target_65 rfl (lv_at hl 2 rfl) ?_
            refine va_iald (f := (mJ σ 7)) hx hb hK hP 2 0 rfl rfl (h) d_Mo_target_66 ?_
            refine lv_iconst (v := 4) hx hb d_Mo_target_67 (by decide) ?_
            refine lv_irem hx hb d_Mo_target_68 (by decide) ?_
            refine lv_iadd hx hb d_Mo_target_69 ?_
            refine lv_goto (tgt := 74) hx hb d_Mo_target_70 (by decide) ?_
            exact mend_i (u := σ) hx hb hr hlocks hS hP d_Mo_target_74 (⟨by first | (simp [taQ, mq, ix, r4, c14, c20, c26, c39, c50]; done) | (simp [taQ, mq, ix, r4, c14, c20, c26, c39, c50]; simp [inF]), rfl⟩)
          · have c50 := b2i0 c50
            refine lv_iload_n hx hb d_Mo_target_53 rfl (lv_at hl 0 rfl) ?_
            refine lv_bipush (v := 15) hx hb d_Mo_target_54 (by decide) ?_
            refine lv_icmp_ne (tgt := 73) hx hb d_Mo_target_56 (by decide) (fun c56 => ?_) (fun c56 => ?_)
            · refine lv_iconst (v := 0) hx hb d_Mo_target_73 (by decide) ?_
              exact mend_i (u := σ) hx hb hr hlocks hS hP d_Mo_target_74 (⟨by first | (simp [taQ, mq, ix, r4, c14, c20, c26, c39, c50, c56]; done) | (simp [taQ, mq, ix, r4, c14, c20, c26, c39, c50, c56]; simp [inF]), rfl⟩)
            · refine lv_bipush (v := 8) hx hb d_Mo_target_59 (by decide) ?_
              refine lv_aload_n hx hb d_Mo_target_61 rfl (lv_at hl 1 rfl) ?_
              refine va_get (D := gD G) (ci := 7) (v := .ref (gad G 22)) (C := R_Mo) (T := F_Mo) (N := 29) hx hb (wl_Mo hT) (fun _ h9 => h9) hown hK hP 0 rfl rfl 1 (by decide) (k_571 hT) (fun _ h9 => h9) rfl d_Mo_target_62 ?_
              refine lv_iload_n hx hb d_Mo_target_65 rfl (lv_at hl 2 rfl) ?_
              refine va_iald (f := (mJ σ 7)) hx hb hK hP 2 0 rfl rfl (h) d_Mo_target_66 ?_
              refine lv_iconst (v := 4) hx hb d_Mo_target_67 (by decide) ?_
              refine lv_irem hx hb d_Mo_target_68 (by decide) ?_
              refine lv_iadd hx hb d_Mo_target_69 ?_
              refine lv_goto (tgt := 74) hx hb d_Mo_target_70 (by decide) ?_
              exact mend_i (u := σ) hx hb hr hlocks hS hP d_Mo_target_74 (⟨by first | (simp [taQ, mq, ix, r4, c14, c20, c26, c39, c50, c56]; done) | (simp [taQ, mq, ix, r4, c14, c20, c26, c39, c50, c56]; simp [inF]), rfl⟩)
      · refine lv_aload_n hx hb d_Mo_target_29 rfl (lv_at hl 1 rfl) ?_
        refine va_get (D := gD G) (ci := 7) (v := .ref (gad G 22)) (C := R_Mo) (T := F_Mo) (N := 29) hx hb (wl_Mo hT) (fun _ h9 => h9) hown hK hP 0 rfl rfl 1 (by decide) (k_571 hT) (fun _ h9 => h9) rfl d_Mo_target_30 ?_
        refine lv_iload_n hx hb d_Mo_target_33 rfl (lv_at hl 2 rfl) ?_
        refine va_iald (f := (mJ σ 7)) hx hb hK hP 2 0 rfl rfl (h) d_Mo_target_34 ?_
        exact mend_i (u := σ) hx hb hr hlocks hS hP d_Mo_target_35 (⟨by first | (simp [taQ, mq, ix, r4, c14, c20, c26]; done) | (simp [taQ, mq, ix, r4, c14, c20, c26]; simp [inF]), rfl⟩)

set_option maxHeartbeats 4000000 in
set_option maxRecDepth 100000 in
theorem K_Mo_latency {l : Launch} {G : GT} (g : MOK l G) (σ : MS) (i : Int32) (h : vp_in i 24) : cx_M l y_Mo_latency (.code y_Mo_latency b_Mo_latency 3 (some .int)) 0 0 (gA G) [.ref (gad G 20), .int i] (Mw G σ) (Mi G (fun r u => r = laQ (mq σ (ix i)) ∧ u = σ)) (Tn) := by
  refine cx_of (by decide +kernel) ?_
  intro p e s m below meth c s₁ B hml ht hc
  have hx := B.exec
  have hb := B.bytes
  have hr := B.returns
  have hown : s.vm.findClass R_Mo = some m.cls := findClass_of_methodNamed B.named
  have hlocks := B.notSynchronized
  have hT := g.tb hc
  have hK := g.k hc
  have hD := g.d (τ := σ)
  have hS : va_S (gA G) s.heap s.heap [] := va_S.rf
  have hP := hc.2.2
  have hl := lv_entry ([.ref (gad G 20), .int i]) (n := 3) (Nat.le_of_ble_eq_true rfl)
  rw [lg_entry_eq]
  generalize (lg_sl ([.ref (gad G 20), .int i]) ++ List.replicate (3 - (lg_sl ([.ref (gad G 20), .int i])).length) Slot.unset).toArray = ls at hl ⊢
  have hl : lv_has ls 3 [(0, .ref (gad G 20)), (1, .int i)] := hl
  refine lv_aload_n hx hb d_Mo_latency_0 rfl (lv_at hl 0 rfl) ?_
  refine va_get (D := gD G) (ci := 7) (v := .ref (gad G 21)) (C := R_Mo) (T := F_Mo) (N := 29) hx hb (wl_Mo hT) (fun _ h9 => h9) hown hK hP 0 rfl rfl 0 (by decide) (k_570 hT) (fun _ h9 => h9) rfl d_Mo_latency_1 ?_
  refine lv_iload_n hx hb d_Mo_latency_4 rfl (lv_at hl 1 rfl) ?_
  refine va_iald (f := (mJ σ 6)) hx hb hK hP 1 0 rfl rfl (h) d_Mo_latency_5 ?_
  refine lv_istore_n (lv' := [(2, .int ((mJ σ 6) i.toNatClampNeg)), (0, .ref (gad G 20)), (1, .int i)]) hx hb d_Mo_latency_6 rfl hl (by decide) rfl (fun ls hl => ?_)
  refine lv_iload_n hx hb d_Mo_latency_7 rfl (lv_at hl 0 rfl) ?_
  refine lv_bipush (v := 6) hx hb d_Mo_latency_8 (by decide) ?_
  refine lv_icmp_ge (tgt := 15) hx hb d_Mo_latency_10 (by decide) (fun c10 => ?_) (fun c10 => ?_)
  · refine lv_iload_n hx hb d_Mo_latency_15 rfl (lv_at hl 0 rfl) ?_
    refine lv_bipush (v := 6) hx hb d_Mo_latency_16 (by decide) ?_
    refine lv_icmp_eq (tgt := 27) hx hb d_Mo_latency_18 (by decide) (fun c18 => ?_) (fun c18 => ?_)
    · refine lv_iconst (v := 2) hx hb d_Mo_latency_27 (by decide) ?_
      exact mend_i (u := σ) hx hb hr hlocks hS hP d_Mo_latency_28 (⟨by first | (simp [laQ, mq, ix, c10, c18]; done) | (simp [laQ, mq, ix, c10, c18]; simp [inF]), rfl⟩)
    · refine lv_iload_n hx hb d_Mo_latency_21 rfl (lv_at hl 0 rfl) ?_
      refine lv_bipush (v := 8) hx hb d_Mo_latency_22 (by decide) ?_
      refine lv_icmp_ne (tgt := 29) hx hb d_Mo_latency_24 (by decide) (fun c24 => ?_) (fun c24 => ?_)
      · refine lv_iload_n hx hb d_Mo_latency_29 rfl (lv_at hl 0 rfl) ?_
        refine lv_bipush (v := 12) hx hb d_Mo_latency_30 (by decide) ?_
        refine lv_icmp_ne (tgt := 39) hx hb d_Mo_latency_32 (by decide) (fun c32 => ?_) (fun c32 => ?_)
        · refine lv_iload_n hx hb d_Mo_latency_39 rfl (lv_at hl 0 rfl) ?_
          refine lv_bipush (v := 13) hx hb d_Mo_latency_40 (by decide) ?_
          refine lv_icmp_ne (tgt := 50) hx hb d_Mo_latency_42 (by decide) (fun c42 => ?_) (fun c42 => ?_)
          · refine lv_iconst (v := 3) hx hb d_Mo_latency_50 (by decide) ?_
            exact mend_i (u := σ) hx hb hr hlocks hS hP d_Mo_latency_51 (⟨by first | (simp [laQ, mq, ix, c10, c18, c24, c32, c42]; done) | (simp [laQ, mq, ix, c10, c18, c24, c32, c42]; simp [inF]), rfl⟩)
          · refine lv_bipush (v := 8) hx hb d_Mo_latency_45 (by decide) ?_
            refine lv_goto (tgt := 51) hx hb d_Mo_latency_47 (by decide) ?_
            exact mend_i (u := σ) hx hb hr hlocks hS hP d_Mo_latency_51 (⟨by first | (simp [laQ, mq, ix, c10, c18, c24, c32, c42]; done) | (simp [laQ, mq, ix, c10, c18, c24, c32, c42]; simp [inF]), rfl⟩)
        · refine lv_iconst (v := 4) hx hb d_Mo_latency_35 (by decide) ?_
          refine lv_goto (tgt := 51) hx hb d_Mo_latency_36 (by decide) ?_
          exact mend_i (u := σ) hx hb hr hlocks hS hP d_Mo_latency_51 (⟨by first | (simp [laQ, mq, ix, c10, c18, c24, c32]; done) | (simp [laQ, mq, ix, c10, c18, c24, c32]; simp [inF]), rfl⟩)
      · refine lv_iconst (v := 2) hx hb d_Mo_latency_27 (by decide) ?_
        exact mend_i (u := σ) hx hb hr hlocks hS hP d_Mo_latency_28 (⟨by first | (simp [laQ, mq, ix, c10, c18, c24]; done) | (simp [laQ, mq, ix, c10, c18, c24]; simp [inF]), rfl⟩)
  · refine lv_iconst (v := 1) hx hb d_Mo_latency_13 (by decide) ?_
    exact mend_i (u := σ) hx hb hr hlocks hS hP d_Mo_latency_14 (⟨by first | (simp [laQ, mq, ix, c10]; done) | (simp [laQ, mq, ix, c10]; simp [inF]), rfl⟩)

set_option maxHeartbeats 4000000 in
set_option maxRecDepth 100000 in
theorem K_Mo_later {l : Launch} {G : GT} (g : MOK l G) (σ : MS) (x y : Int32) : cx_M l y_Mo_later (.code y_Mo_later b_Mo_later 2 (some .int)) 0 0 (gA G) [.int x, .int y] (Mw G σ) (Mi G (fun r u => r = ltF x y ∧ u = σ)) (Tn) := by
  refine cx_of (by decide +kernel) ?_
  intro p e s m below meth c s₁ B hml ht hc
  have hx := B.exec
  have hb := B.bytes
  have hr := B.returns
  have hown : s.vm.findClass R_Mo = some m.cls := findClass_of_methodNamed B.named
  have hlocks := B.notSynchronized
  have hT := g.tb hc
  have hK := g.k hc
  have hD := g.d (τ := σ)
  have hS : va_S (gA G) s.heap s.heap [] := va_S.rf
  have hP := hc.2.2
  have hl := lv_entry ([.int x, .int y]) (n := 2) (Nat.le_of_ble_eq_true rfl)
  rw [lg_entry_eq]
  generalize (lg_sl ([.int x, .int y]) ++ List.replicate (2 - (lg_sl ([.int x, .int y])).length) Slot.unset).toArray = ls at hl ⊢
  have hl : lv_has ls 2 [(0, .int x), (1, .int y)] := hl
  refine lv_iload_n hx hb d_Mo_later_0 rfl (lv_at hl 0 rfl) ?_
  refine lv_iload_n hx hb d_Mo_later_1 rfl (lv_at hl 1 rfl) ?_
  refine lv_icmp_le (tgt := 9) hx hb d_Mo_later_2 (by decide) (fun c2 => ?_) (fun c2 => ?_)
  · refine lv_iload_n hx hb d_Mo_later_9 rfl (lv_at hl 1 rfl) ?_
    exact mend_i (u := σ) hx hb hr hlocks hS hP d_Mo_later_10 (⟨by first | (simp [ltF, c2]; done) | (simp [ltF, c2]; simp [inF]), rfl⟩)
  · refine lv_iload_n hx hb d_Mo_later_5 rfl (lv_at hl 0 rfl) ?_
    refine lv_goto (tgt := 10) hx hb d_Mo_later_6 (by decide) ?_
    exact mend_i (u := σ) hx hb hr hlocks hS hP d_Mo_later_10 (⟨by first | (simp [ltF, c2]; done) | (simp [ltF, c2]; simp [inF]), rfl⟩)

set_option maxHeartbeats 4000000 in
set_option maxRecDepth 100000 in
theorem K_Mo_modulo {l : Launch} {G : GT} (g : MOK l G) (σ : MS) (x : Int32) : cx_M l y_Mo_modulo (.code y_Mo_modulo b_Mo_modulo 1 (some .int)) 0 0 (gA G) [.int x] (Mw G σ) (Mi G (fun r u => r = mdl x ∧ u = σ)) (Tn) := by
  refine cx_of (by decide +kernel) ?_
  intro p e s m below meth c s₁ B hml ht hc
  have hx := B.exec
  have hb := B.bytes
  have hr := B.returns
  have hown : s.vm.findClass R_Mo = some m.cls := findClass_of_methodNamed B.named
  have hlocks := B.notSynchronized
  have hT := g.tb hc
  have hK := g.k hc
  have hD := g.d (τ := σ)
  have hS : va_S (gA G) s.heap s.heap [] := va_S.rf
  have hP := hc.2.2
  have hl := lv_entry ([.int x]) (n := 1) (Nat.le_of_ble_eq_true rfl)
  rw [lg_entry_eq]
  generalize (lg_sl ([.int x]) ++ List.replicate (1 - (lg_sl ([.int x])).length) Slot.unset).toArray = ls at hl ⊢
  have hl : lv_has ls 1 [(0, .int x)] := hl
  refine lv_iload_n hx hb d_Mo_modulo_0 rfl (lv_at hl 0 rfl) ?_
  refine lv_bipush (v := 24) hx hb d_Mo_modulo_1 (by decide) ?_
  refine lv_irem hx hb d_Mo_modulo_3 (by decide) ?_
  refine lv_bipush (v := 24) hx hb d_Mo_modulo_4 (by decide) ?_
  refine lv_iadd hx hb d_Mo_modulo_6 ?_
  refine lv_bipush (v := 24) hx hb d_Mo_modulo_7 (by decide) ?_
  refine lv_irem hx hb d_Mo_modulo_9 (by decide) ?_
  exact mend_i (u := σ) hx hb hr hlocks hS hP d_Mo_modulo_10 (⟨rfl, rfl⟩)

set_option maxHeartbeats 4000000 in
set_option maxRecDepth 100000 in
theorem K_Mo_put {l : Launch} {G : GT} (g : MOK l G) (σ : MS) (r v : Int32) (h : vp_in r 8) : cx_M l y_Mo_put (.code y_Mo_put b_Mo_put 3 none) 0 0 (gA G) [.ref (gad G 20), .int r, .int v] (Mw G σ) (Mv G (fun u => u = puF σ r v)) (Tn) := by
  refine cx_of (by decide +kernel) ?_
  intro p e s m below meth c s₁ B hml ht hc
  have hx := B.exec
  have hb := B.bytes
  have hr := B.returns
  have hown : s.vm.findClass R_Mo = some m.cls := findClass_of_methodNamed B.named
  have hlocks := B.notSynchronized
  have hT := g.tb hc
  have hK := g.k hc
  have hD := g.d (τ := σ)
  have hS : va_S (gA G) s.heap s.heap [] := va_S.rf
  have hP := hc.2.2
  have hl := lv_entry ([.ref (gad G 20), .int r, .int v]) (n := 3) (Nat.le_of_ble_eq_true rfl)
  rw [lg_entry_eq]
  generalize (lg_sl ([.ref (gad G 20), .int r, .int v]) ++ List.replicate (3 - (lg_sl ([.ref (gad G 20), .int r, .int v])).length) Slot.unset).toArray = ls at hl ⊢
  have hl : lv_has ls 3 [(0, .ref (gad G 20)), (1, .int r), (2, .int v)] := hl
  refine lv_iload_n hx hb d_Mo_put_0 rfl (lv_at hl 1 rfl) ?_
  refine lv_if_le (tgt := 11) hx hb d_Mo_put_1 (by decide) (fun c1 => ?_) (fun c1 => ?_)
  · exact mend_v (u := σ) hx hb hr hlocks hS hP d_Mo_put_11 (by simp [puF, ix, c1])
  · refine lv_aload_n hx hb d_Mo_put_4 rfl (lv_at hl 0 rfl) ?_
    refine va_get (D := gD G) (ci := 7) (v := .ref (gad G 26)) (C := R_Mo) (T := F_Mo) (N := 29) hx hb (wl_Mo hT) (fun _ h9 => h9) hown hK hP 0 rfl rfl 5 (by decide) (k_575 hT) (fun _ h9 => h9) rfl d_Mo_put_5 ?_
    refine lv_iload_n hx hb d_Mo_put_8 rfl (lv_at hl 1 rfl) ?_
    refine lv_iload_n hx hb d_Mo_put_9 rfl (lv_at hl 2 rfl) ?_
    refine va_iast (f := (mJ σ 0)) hx hb hK hP hD hS 6 0 rfl rfl (h) d_Mo_put_10 (fun H locs hP hD hS => ?_)
    have hP : va_P (gD G) classes (mw G (tJ σ 0 (upd (mJ σ 0) r.toNatClampNeg v))) H := hP
    have hD : va_D (gA G) (mw G (tJ σ 0 (upd (mJ σ 0) r.toNatClampNeg v))) := g.d
    exact mend_v (u := (tJ σ 0 (upd (mJ σ 0) r.toNatClampNeg v))) hx hb hr hlocks hS hP d_Mo_put_11 (by simp [puF, ix, c1])

set_option maxHeartbeats 4000000 in
set_option maxRecDepth 100000 in
theorem K_Mo_reckon {l : Launch} {G : GT} (g : MOK l G) (σ : MS) (o : Int32) (x y : UInt64) (hxf : fp_fin x) (hyf : fp_fin y) (hz : ¬ o = 10 → ¬ o = 11 → ¬ o = 12 → ¬ Op.cmpValue (FP.dcmp y FP.dconst0) .l = 0) : cx_M l y_Mo_reckon (.code y_Mo_reckon b_Mo_reckon 6 (some .double)) 0 0 (gA G) [.ref (gad G 20), .int o, .double x, .double y] (Mw G σ) (Md G (fun r u => r = ocF o x y ∧ u = σ)) (Tn) := by
  refine cx_of (by decide +kernel) ?_
  intro p e s m below meth c s₁ B hml ht hc
  have hx := B.exec
  have hb := B.bytes
  have hr := B.returns
  have hown : s.vm.findClass R_Mo = some m.cls := findClass_of_methodNamed B.named
  have hlocks := B.notSynchronized
  have hT := g.tb hc
  have hK := g.k hc
  have hD := g.d (τ := σ)
  have hS : va_S (gA G) s.heap s.heap [] := va_S.rf
  have hP := hc.2.2
  have hl := lv_entry ([.ref (gad G 20), .int o, .double x, .double y]) (n := 6) (Nat.le_of_ble_eq_true rfl)
  rw [lg_entry_eq]
  generalize (lg_sl ([.ref (gad G 20), .int o, .double x, .double y]) ++ List.replicate (6 - (lg_sl ([.ref (gad G 20), .int o, .double x, .double y])).length) Slot.unset).toArray = ls at hl ⊢
  have hl : lv_has ls 6 [(0, .ref (gad G 20)), (1, .int o), (2, .double x), (4, .double y)] := hl
  refine lv_iload_n hx hb d_Mo_reckon_0 rfl (lv_at hl 1 rfl) ?_
  refine lv_bipush (v := 10) hx hb d_Mo_reckon_1 (by decide) ?_
  refine lv_icmp_ne (tgt := 13) hx hb d_Mo_reckon_3 (by decide) (fun c3 => ?_) (fun c3 => ?_)
  · refine lv_iload_n hx hb d_Mo_reckon_13 rfl (lv_at hl 1 rfl) ?_
    refine lv_bipush (v := 11) hx hb d_Mo_reckon_14 (by decide) ?_
    refine lv_icmp_ne (tgt := 26) hx hb d_Mo_reckon_16 (by decide) (fun c16 => ?_) (fun c16 => ?_)
    · refine lv_iload_n hx hb d_Mo_reckon_26 rfl (lv_at hl 1 rfl) ?_
      refine lv_bipush (v := 12) hx hb d_Mo_reckon_27 (by decide) ?_
      refine lv_icmp_ne (tgt := 39) hx hb d_Mo_reckon_29 (by decide) (fun c29 => ?_) (fun c29 => ?_)
      · refine lv_dload_n hx hb d_Mo_reckon_39 rfl (lv_at hl 2 rfl) ?_
        refine lv_dload hx hb d_Mo_reckon_40 (lv_at hl 3 rfl) ?_
        refine lv_ddiv hx hb d_Mo_reckon_42 (fp_div hxf hyf (fun z => hz c3 c16 c29 (by rw [z]; rfl))) ?_
        exact mend_d (u := σ) hx hb hr hlocks hS hP d_Mo_reckon_43 (⟨by first | (simp [ocF, c3, c16, c29]; done) | (simp [ocF, c3, c16, c29]; simp [inF]), rfl⟩)
      · refine lv_dload_n hx hb d_Mo_reckon_32 rfl (lv_at hl 2 rfl) ?_
        refine lv_dload hx hb d_Mo_reckon_33 (lv_at hl 3 rfl) ?_
        refine lv_dmul hx hb d_Mo_reckon_35 (fp_mul hxf hyf) ?_
        refine lv_goto (tgt := 43) hx hb d_Mo_reckon_36 (by decide) ?_
        exact mend_d (u := σ) hx hb hr hlocks hS hP d_Mo_reckon_43 (⟨by first | (simp [ocF, c3, c16, c29]; done) | (simp [ocF, c3, c16, c29]; simp [inF]), rfl⟩)
    · refine lv_dload_n hx hb d_Mo_reckon_19 rfl (lv_at hl 2 rfl) ?_
      refine lv_dload hx hb d_Mo_reckon_20 (lv_at hl 3 rfl) ?_
      refine lv_dsub hx hb d_Mo_reckon_22 (fp_sub hxf hyf) ?_
      refine lv_goto (tgt := 43) hx hb d_Mo_reckon_23 (by decide) ?_
      exact mend_d (u := σ) hx hb hr hlocks hS hP d_Mo_reckon_43 (⟨by first | (simp [ocF, c3, c16]; done) | (simp [ocF, c3, c16]; simp [inF]), rfl⟩)
  · refine lv_dload_n hx hb d_Mo_reckon_6 rfl (lv_at hl 2 rfl) ?_
    refine lv_dload hx hb d_Mo_reckon_7 (lv_at hl 3 rfl) ?_
    refine lv_dadd hx hb d_Mo_reckon_9 (fp_add hxf hyf) ?_
    refine lv_goto (tgt := 43) hx hb d_Mo_reckon_10 (by decide) ?_
    exact mend_d (u := σ) hx hb hr hlocks hS hP d_Mo_reckon_43 (⟨by first | (simp [ocF, c3]; done) | (simp [ocF, c3]; simp [inF]), rfl⟩)

set_option maxHeartbeats 4000000 in
set_option maxRecDepth 100000 in
theorem K_Mo_reads {l : Launch} {G : GT} (g : MOK l G) (σ : MS) (i r : Int32) (h : vp_in i 24) : cx_M l y_Mo_reads (.code y_Mo_reads b_Mo_reads 3 (some .boolean)) 2 44 (gA G) [.ref (gad G 20), .int i, .int r] (Mw G σ) (Mi G (fun v u => v = b2i (rdM (mq σ (ix i)) r) ∧ u = σ)) (Tn) := by
  refine cx_of (by decide +kernel) ?_
  intro p e s m below meth c s₁ B hml ht hc
  have hx := B.exec
  have hb := B.bytes
  have hr := B.returns
  have hown : s.vm.findClass R_Mo = some m.cls := findClass_of_methodNamed B.named
  have hlocks := B.notSynchronized
  have hT := g.tb hc
  have hK := g.k hc
  have hD := g.d (τ := σ)
  have hS : va_S (gA G) s.heap s.heap [] := va_S.rf
  have hP := hc.2.2
  have hl := lv_entry ([.ref (gad G 20), .int i, .int r]) (n := 3) (Nat.le_of_ble_eq_true rfl)
  rw [lg_entry_eq]
  generalize (lg_sl ([.ref (gad G 20), .int i, .int r]) ++ List.replicate (3 - (lg_sl ([.ref (gad G 20), .int i, .int r])).length) Slot.unset).toArray = ls at hl ⊢
  have hl : lv_has ls 3 [(0, .ref (gad G 20)), (1, .int i), (2, .int r)] := hl
  refine lv_iload_n hx hb d_Mo_reads_0 rfl (lv_at hl 2 rfl) ?_
  refine lv_if_le (tgt := 26) hx hb d_Mo_reads_1 (by decide) (fun c1 => ?_) (fun c1 => ?_)
  · refine lv_iconst (v := 0) hx hb d_Mo_reads_26 (by decide) ?_
    exact mend_z (u := σ) hx hb hr hlocks hS hP d_Mo_reads_27 rfl (⟨by first | (simp [rdM, b2i, c1]; done) | (simp [rdM, b2i, c1]; simp [inF]), rfl⟩)
  · refine lv_aload_n hx hb d_Mo_reads_4 rfl (lv_at hl 0 rfl) ?_
    refine lv_iload_n hx hb d_Mo_reads_5 rfl (lv_at hl 1 rfl) ?_
    refine cx_V (n := 1) (C := R_Mo) (As := [.int i]) (rest := []) ⟨hx, hb, hml, hown, fun _ h9 => nomatch h9⟩ (K_Mo_first g σ i h) (k_717 hT) (k_719 hT) (ks_27 hT) (k_720 hT) (k_9 hT) rfl (by decide +kernel) (va_recv hK hP (ci := 7) (q0 := 0) rfl rfl) (hc.at g hS hP) ⟨by decide, by decide⟩ ⟨by decide, by decide⟩ hl.1 (Nat.le_of_ble_eq_true rfl) d_Mo_reads_6 (fun _ h9 => h9) hS (fun _ _ _ _ _ _ _ h9 => h9.elim) (fun v t H locs ht9 hRt hz hk hS => ?_)
    obtain ⟨r, u, rfl, ⟨er, eu⟩, hP⟩ := hRt
    subst er
    rw [eu, ht9] at hP
    have hD : va_D (gA G) (mw G σ) := g.d
    refine W.eq (g2 := F0 m 9 ls [.int (fiQ (mq σ (ix i)))]) rfl ?_
    refine lv_iload_n hx hb d_Mo_reads_9 rfl (lv_at hl 2 rfl) ?_
    refine lv_icmp_eq (tgt := 22) hx hb d_Mo_reads_10 (by decide) (fun c10 => ?_) (fun c10 => ?_)
    · refine lv_iconst (v := 1) hx hb d_Mo_reads_22 (by decide) ?_
      refine lv_goto (tgt := 27) hx hb d_Mo_reads_23 (by decide) ?_
      exact mend_z (u := σ) hx hb hr hlocks hS hP d_Mo_reads_27 rfl (⟨by first | (simp [rdM, b2i, c1, c10]; done) | (simp [rdM, b2i, c1, c10]; simp [inF]), rfl⟩)
    · refine lv_aload_n hx hb d_Mo_reads_13 rfl (lv_at hl 0 rfl) ?_
      refine lv_iload_n hx hb d_Mo_reads_14 rfl (lv_at hl 1 rfl) ?_
      refine cx_V (n := 1) (C := R_Mo) (As := [.int i]) (rest := []) ⟨hx, hb, hml, hown, fun _ h9 => nomatch h9⟩ (K_Mo_second g σ i h) (k_724 hT) (k_726 hT) (ks_28 hT) (k_727 hT) (k_9 hT) rfl (by decide +kernel) (va_recv hK hP (ci := 7) (q0 := 0) rfl rfl) (hc.at g hS hP) ⟨by decide, by decide⟩ ⟨by decide, by decide⟩ hl.1 (Nat.le_of_ble_eq_true rfl) d_Mo_reads_15 (fun _ h9 => h9) hS (fun _ _ _ _ _ _ _ h9 => h9.elim) (fun v t H locs ht9 hRt hz hk hS => ?_)
      obtain ⟨r, u, rfl, ⟨er, eu⟩, hP⟩ := hRt
      subst er
      rw [eu, ht9] at hP
      have hD : va_D (gA G) (mw G σ) := g.d
      refine W.eq (g2 := F0 m 18 ls [.int (seQ (mq σ (ix i)))]) rfl ?_
      refine lv_iload_n hx hb d_Mo_reads_18 rfl (lv_at hl 2 rfl) ?_
      refine lv_icmp_ne (tgt := 26) hx hb d_Mo_reads_19 (by decide) (fun c19 => ?_) (fun c19 => ?_)
      · refine lv_iconst (v := 0) hx hb d_Mo_reads_26 (by decide) ?_
        exact mend_z (u := σ) hx hb hr hlocks hS hP d_Mo_reads_27 rfl (⟨by first | (simp [rdM, b2i, c1, c10, c19]; done) | (simp [rdM, b2i, c1, c10, c19]; simp [inF]), rfl⟩)
      · refine lv_iconst (v := 1) hx hb d_Mo_reads_22 (by decide) ?_
        refine lv_goto (tgt := 27) hx hb d_Mo_reads_23 (by decide) ?_
        exact mend_z (u := σ) hx hb hr hlocks hS hP d_Mo_reads_27 rfl (⟨by first | (simp [rdM, b2i, c1, c10, c19]; done) | (simp [rdM, b2i, c1, c10, c19]; simp [inF]), rfl⟩)

set_option maxHeartbeats 4000000 in
set_option maxRecDepth 100000 in
theorem K_Mo_tied {l : Launch} {G : GT} (g : MOK l G) (σ : MS) (i k : Int32) (h : vp_in i 24) (h2 : vp_in k 24) : cx_M l y_Mo_tied (.code y_Mo_tied b_Mo_tied 5 (some .boolean)) 3 66 (gA G) [.ref (gad G 20), .int i, .int k] (Mw G σ) (Mi G (fun v u => v = b2i (tdM (mq σ (ix i)) (mq σ (ix k))) ∧ u = σ)) (Tn) := by
  refine cx_of (by decide +kernel) ?_
  intro p e s m below meth c s₁ B hml ht hc
  have hx := B.exec
  have hb := B.bytes
  have hr := B.returns
  have hown : s.vm.findClass R_Mo = some m.cls := findClass_of_methodNamed B.named
  have hlocks := B.notSynchronized
  have hT := g.tb hc
  have hK := g.k hc
  have hD := g.d (τ := σ)
  have hS : va_S (gA G) s.heap s.heap [] := va_S.rf
  have hP := hc.2.2
  have hl := lv_entry ([.ref (gad G 20), .int i, .int k]) (n := 5) (Nat.le_of_ble_eq_true rfl)
  rw [lg_entry_eq]
  generalize (lg_sl ([.ref (gad G 20), .int i, .int k]) ++ List.replicate (5 - (lg_sl ([.ref (gad G 20), .int i, .int k])).length) Slot.unset).toArray = ls at hl ⊢
  have hl : lv_has ls 5 [(0, .ref (gad G 20)), (1, .int i), (2, .int k)] := hl
  refine lv_aload_n hx hb d_Mo_tied_0 rfl (lv_at hl 0 rfl) ?_
  refine lv_iload_n hx hb d_Mo_tied_1 rfl (lv_at hl 1 rfl) ?_
  refine cx_V (n := 1) (C := R_Mo) (As := [.int i]) (rest := []) ⟨hx, hb, hml, hown, fun _ h9 => nomatch h9⟩ (K_Mo_target g σ i h) (k_709 hT) (k_711 hT) (ks_25 hT) (k_712 hT) (k_9 hT) rfl (by decide +kernel) (va_recv hK hP (ci := 7) (q0 := 0) rfl rfl) (hc.at g hS hP) ⟨by decide, by decide⟩ ⟨by decide, by decide⟩ hl.1 (Nat.le_of_ble_eq_true rfl) d_Mo_tied_2 (fun _ h9 => h9) hS (fun _ _ _ _ _ _ _ h9 => h9.elim) (fun v t H locs ht9 hRt hz hk hS => ?_)
  obtain ⟨r, u, rfl, ⟨er, eu⟩, hP⟩ := hRt
  subst er
  rw [eu, ht9] at hP
  have hD : va_D (gA G) (mw G σ) := g.d
  refine W.eq (g2 := F0 m 5 ls [.int (taQ (mq σ (ix i)))]) rfl ?_
  refine lv_istore_n (lv' := [(3, .int (taQ (mq σ (ix i)))), (0, .ref (gad G 20)), (1, .int i), (2, .int k)]) hx hb d_Mo_tied_5 rfl hl (by decide) rfl (fun ls hl => ?_)
  refine lv_aload_n hx hb d_Mo_tied_6 rfl (lv_at hl 1 rfl) ?_
  refine lv_iload_n hx hb d_Mo_tied_7 rfl (lv_at hl 3 rfl) ?_
  refine cx_V (n := 1) (C := R_Mo) (As := [.int k]) (rest := []) ⟨hx, hb, hml, hown, fun _ h9 => nomatch h9⟩ (K_Mo_target g σ k h2) (k_709 hT) (k_711 hT) (ks_25 hT) (k_712 hT) (k_9 hT) rfl (by decide +kernel) (va_recv hK hP (ci := 7) (q0 := 0) rfl rfl) (hc.at g hS hP) ⟨by decide, by decide⟩ ⟨by decide, by decide⟩ hl.1 (Nat.le_of_ble_eq_true rfl) d_Mo_tied_8 (fun _ h9 => h9) hS (fun _ _ _ _ _ _ _ h9 => h9.elim) (fun v t H locs ht9 hRt hz hk hS => ?_)
  obtain ⟨r, u, rfl, ⟨er, eu⟩, hP⟩ := hRt
  subst er
  rw [eu, ht9] at hP
  have hD : va_D (gA G) (mw G σ) := g.d
  refine W.eq (g2 := F0 m 11 ls [.int (taQ (mq σ (ix k)))]) rfl ?_
  refine lv_istore (lv' := [(4, .int (taQ (mq σ (ix k)))), (3, .int (taQ (mq σ (ix i)))), (0, .ref (gad G 20)), (1, .int i), (2, .int k)]) hx hb d_Mo_tied_11 hl (by decide) rfl (fun ls hl => ?_)
  refine lv_aload_n hx hb d_Mo_tied_13 rfl (lv_at hl 2 rfl) ?_
  refine lv_iload_n hx hb d_Mo_tied_14 rfl (lv_at hl 4 rfl) ?_
  refine lv_iload_n hx hb d_Mo_tied_15 rfl (lv_at hl 1 rfl) ?_
  refine cx_V (n := 2) (C := R_Mo) (As := [.int k, .int (taQ (mq σ (ix i)))]) (rest := []) ⟨hx, hb, hml, hown, fun _ h9 => nomatch h9⟩ (K_Mo_reads g σ k (taQ (mq σ (ix i))) h2) (k_759 hT) (k_761 hT) (ks_35 hT) (k_762 hT) (k_9 hT) rfl (by decide +kernel) (va_recv hK hP (ci := 7) (q0 := 0) rfl rfl) (hc.at g hS hP) ⟨by decide, by decide⟩ ⟨by decide, by decide⟩ hl.1 (Nat.le_of_ble_eq_true rfl) d_Mo_tied_16 (fun _ h9 => h9) hS (fun _ _ _ _ _ _ _ h9 => h9.elim) (fun v t H locs ht9 hRt hz hk hS => ?_)
  obtain ⟨r, u, rfl, ⟨er, eu⟩, hP⟩ := hRt
  subst er
  rw [eu, ht9] at hP
  have hD : va_D (gA G) (mw G σ) := g.d
  refine W.eq (g2 := F0 m 19 ls [.int (b2i (rdM (mq σ (ix k)) (taQ (mq σ (ix i)))))]) rfl ?_
  refine lv_if_ne (tgt := 74) hx hb d_Mo_tied_19 (by decide) (fun c19 => ?_) (fun c19 => ?_)
  · have c19 := b2i1 c19
    refine lv_iconst (v := 1) hx hb d_Mo_tied_74 (by decide) ?_
    refine lv_goto (tgt := 79) hx hb d_Mo_tied_75 (by decide) ?_
    exact mend_z (u := σ) hx hb hr hlocks hS hP d_Mo_tied_79 rfl (⟨by simp [tdM, b2i, c19]; try simp [mq, ix, *] , rfl⟩)
  · have c19 := b2i0 c19
    refine lv_aload_n hx hb d_Mo_tied_22 rfl (lv_at hl 2 rfl) ?_
    refine lv_iload_n hx hb d_Mo_tied_23 rfl (lv_at hl 3 rfl) ?_
    refine lv_iload hx hb d_Mo_tied_24 (lv_at hl 0 rfl) ?_
    refine cx_V (n := 2) (C := R_Mo) (As := [.int i, .int (taQ (mq σ (ix k)))]) (rest := []) ⟨hx, hb, hml, hown, fun _ h9 => nomatch h9⟩ (K_Mo_reads g σ i (taQ (mq σ (ix k))) h) (k_759 hT) (k_761 hT) (ks_35 hT) (k_762 hT) (k_9 hT) rfl (by decide +kernel) (va_recv hK hP (ci := 7) (q0 := 0) rfl rfl) (hc.at g hS hP) ⟨by decide, by decide⟩ ⟨by decide, by decide⟩ hl.1 (Nat.le_of_ble_eq_true rfl) d_Mo_tied_26 (fun _ h9 => h9) hS (fun _ _ _ _ _ _ _ h9 => h9.elim) (fun v t H locs ht9 hRt hz hk hS => ?_)
    obtain ⟨r, u, rfl, ⟨er, eu⟩, hP⟩ := hRt
    subst er
    rw [eu, ht9] at hP
    have hD : va_D (gA G) (mw G σ) := g.d
    refine W.eq (g2 := F0 m 29 ls [.int (b2i (rdM (mq σ (ix i)) (taQ (mq σ (ix k)))))]) rfl ?_
    refine lv_if_ne (tgt := 74) hx hb d_Mo_tied_29 (by decide) (fun c29 => ?_) (fun c29 => ?_)
    · have c29 := b2i1 c29
      refine lv_iconst (v := 1) hx hb d_Mo_tied_74 (by decide) ?_
      refine lv_goto (tgt := 79) hx hb d_Mo_tied_75 (by decide) ?_
      exact mend_z (u := σ) hx hb hr hlocks hS hP d_Mo_tied_79 rfl (⟨by simp [tdM, b2i, c19, c29]; try simp [mq, ix, *] , rfl⟩)
    · have c29 := b2i0 c29
      refine lv_iload_n hx hb d_Mo_tied_32 rfl (lv_at hl 1 rfl) ?_
      refine lv_if_le (tgt := 42) hx hb d_Mo_tied_33 (by decide) (fun c33 => ?_) (fun c33 => ?_)
      · refine lv_aload_n hx hb d_Mo_tied_42 rfl (lv_at hl 2 rfl) ?_
        refine va_get (D := gD G) (ci := 7) (v := .ref (gad G 21)) (C := R_Mo) (T := F_Mo) (N := 29) hx hb (wl_Mo hT) (fun _ h9 => h9) hown hK hP 0 rfl rfl 0 (by decide) (k_570 hT) (fun _ h9 => h9) rfl d_Mo_tied_43 ?_
        refine lv_iload_n hx hb d_Mo_tied_46 rfl (lv_at hl 3 rfl) ?_
        refine va_iald (f := (mJ σ 6)) hx hb hK hP 1 0 rfl rfl (h) d_Mo_tied_47 ?_
        refine lv_bipush (v := 6) hx hb d_Mo_tied_48 (by decide) ?_
        refine lv_bipush (v := 13) hx hb d_Mo_tied_50 (by decide) ?_
        refine cx_S (n := 3) (As := [.int ((mJ σ 6) i.toNatClampNeg), .int 6, .int 13]) (rest := []) ⟨hx, hb, hml, hown, fun _ h9 => nomatch h9⟩ (K_Mo_in g σ ((mJ σ 6) i.toNatClampNeg) 6 13 ) (k_666 hT) (k_667 hT) (k_668 hT) (k_9 hT) rfl (by decide +kernel) (hc.at g hS hP) ⟨by decide, by decide⟩ ⟨by decide, by decide⟩ hl.1 (Nat.le_of_ble_eq_true rfl) d_Mo_tied_52 (fun _ h9 => h9) hS (fun _ _ _ _ _ _ _ h9 => h9.elim) (fun v t H locs ht9 hRt hz hk hS => ?_)
        obtain ⟨r, u, rfl, ⟨er, eu⟩, hP⟩ := hRt
        subst er
        rw [eu, ht9] at hP
        have hD : va_D (gA G) (mw G σ) := g.d
        refine W.eq (g2 := F0 m 55 ls [.int (b2i (inF ((mJ σ 6) i.toNatClampNeg) 6 13))]) rfl ?_
        refine lv_if_eq (tgt := 78) hx hb d_Mo_tied_55 (by decide) (fun c55 => ?_) (fun c55 => ?_)
        · have c55 := b2i0 c55
          refine lv_iconst (v := 0) hx hb d_Mo_tied_78 (by decide) ?_
          exact mend_z (u := σ) hx hb hr hlocks hS hP d_Mo_tied_79 rfl (⟨by simp [tdM, b2i, c19, c29, c33, c55]; try simp [mq, ix, *] , rfl⟩)
        · have c55 := b2i1 c55
          refine lv_aload_n hx hb d_Mo_tied_58 rfl (lv_at hl 2 rfl) ?_
          refine va_get (D := gD G) (ci := 7) (v := .ref (gad G 21)) (C := R_Mo) (T := F_Mo) (N := 29) hx hb (wl_Mo hT) (fun _ h9 => h9) hown hK hP 0 rfl rfl 0 (by decide) (k_570 hT) (fun _ h9 => h9) rfl d_Mo_tied_59 ?_
          refine lv_iload_n hx hb d_Mo_tied_62 rfl (lv_at hl 4 rfl) ?_
          refine va_iald (f := (mJ σ 6)) hx hb hK hP 1 0 rfl rfl (h2) d_Mo_tied_63 ?_
          refine lv_bipush (v := 6) hx hb d_Mo_tied_64 (by decide) ?_
          refine lv_bipush (v := 13) hx hb d_Mo_tied_66 (by decide) ?_
          refine cx_S (n := 3) (As := [.int ((mJ σ 6) k.toNatClampNeg), .int 6, .int 13]) (rest := []) ⟨hx, hb, hml, hown, fun _ h9 => nomatch h9⟩ (K_Mo_in g σ ((mJ σ 6) k.toNatClampNeg) 6 13 ) (k_666 hT) (k_667 hT) (k_668 hT) (k_9 hT) rfl (by decide +kernel) (hc.at g hS hP) ⟨by decide, by decide⟩ ⟨by decide, by decide⟩ hl.1 (Nat.le_of_ble_eq_true rfl) d_Mo_tied_68 (fun _ h9 => h9) hS (fun _ _ _ _ _ _ _ h9 => h9.elim) (fun v t H locs ht9 hRt hz hk hS => ?_)
          obtain ⟨r, u, rfl, ⟨er, eu⟩, hP⟩ := hRt
          subst er
          rw [eu, ht9] at hP
          have hD : va_D (gA G) (mw G σ) := g.d
          refine W.eq (g2 := F0 m 71 ls [.int (b2i (inF ((mJ σ 6) k.toNatClampNeg) 6 13))]) rfl ?_
          refine lv_if_eq (tgt := 78) hx hb d_Mo_tied_71 (by decide) (fun c71 => ?_) (fun c71 => ?_)
          · have c71 := b2i0 c71
            refine lv_iconst (v := 0) hx hb d_Mo_tied_78 (by decide) ?_
            exact mend_z (u := σ) hx hb hr hlocks hS hP d_Mo_tied_79 rfl (⟨by simp [tdM, b2i, c19, c29, c33, c55, c71]; try simp [mq, ix, *] , rfl⟩)
          · have c71 := b2i1 c71
            refine lv_iconst (v := 1) hx hb d_Mo_tied_74 (by decide) ?_
            refine lv_goto (tgt := 79) hx hb d_Mo_tied_75 (by decide) ?_
            exact mend_z (u := σ) hx hb hr hlocks hS hP d_Mo_tied_79 rfl (⟨by simp [tdM, b2i, c19, c29, c33, c55, c71]; try simp [mq, ix, *] , rfl⟩)
      · refine lv_iload_n hx hb d_Mo_tied_36 rfl (lv_at hl 1 rfl) ?_
        refine lv_iload hx hb d_Mo_tied_37 (lv_at hl 0 rfl) ?_
        refine lv_icmp_eq (tgt := 74) hx hb d_Mo_tied_39 (by decide) (fun c39 => ?_) (fun c39 => ?_)
        · refine lv_iconst (v := 1) hx hb d_Mo_tied_74 (by decide) ?_
          refine lv_goto (tgt := 79) hx hb d_Mo_tied_75 (by decide) ?_
          exact mend_z (u := σ) hx hb hr hlocks hS hP d_Mo_tied_79 rfl (⟨by unfold tdM; rw [if_neg (by rw [c19]; decide), if_neg (by rw [c29]; decide), if_neg c33, if_pos c39]; rfl, rfl⟩)
        · refine lv_aload_n hx hb d_Mo_tied_42 rfl (lv_at hl 2 rfl) ?_
          refine va_get (D := gD G) (ci := 7) (v := .ref (gad G 21)) (C := R_Mo) (T := F_Mo) (N := 29) hx hb (wl_Mo hT) (fun _ h9 => h9) hown hK hP 0 rfl rfl 0 (by decide) (k_570 hT) (fun _ h9 => h9) rfl d_Mo_tied_43 ?_
          refine lv_iload_n hx hb d_Mo_tied_46 rfl (lv_at hl 3 rfl) ?_
          refine va_iald (f := (mJ σ 6)) hx hb hK hP 1 0 rfl rfl (h) d_Mo_tied_47 ?_
          refine lv_bipush (v := 6) hx hb d_Mo_tied_48 (by decide) ?_
          refine lv_bipush (v := 13) hx hb d_Mo_tied_50 (by decide) ?_
          refine cx_S (n := 3) (As := [.int ((mJ σ 6) i.toNatClampNeg), .int 6, .int 13]) (rest := []) ⟨hx, hb, hml, hown, fun _ h9 => nomatch h9⟩ (K_Mo_in g σ ((mJ σ 6) i.toNatClampNeg) 6 13 ) (k_666 hT) (k_667 hT) (k_668 hT) (k_9 hT) rfl (by decide +kernel) (hc.at g hS hP) ⟨by decide, by decide⟩ ⟨by decide, by decide⟩ hl.1 (Nat.le_of_ble_eq_true rfl) d_Mo_tied_52 (fun _ h9 => h9) hS (fun _ _ _ _ _ _ _ h9 => h9.elim) (fun v t H locs ht9 hRt hz hk hS => ?_)
          obtain ⟨r, u, rfl, ⟨er, eu⟩, hP⟩ := hRt
          subst er
          rw [eu, ht9] at hP
          have hD : va_D (gA G) (mw G σ) := g.d
          refine W.eq (g2 := F0 m 55 ls [.int (b2i (inF ((mJ σ 6) i.toNatClampNeg) 6 13))]) rfl ?_
          refine lv_if_eq (tgt := 78) hx hb d_Mo_tied_55 (by decide) (fun c55 => ?_) (fun c55 => ?_)
          · have c55 := b2i0 c55
            refine lv_iconst (v := 0) hx hb d_Mo_tied_78 (by decide) ?_
            exact mend_z (u := σ) hx hb hr hlocks hS hP d_Mo_tied_79 rfl (⟨by simp [tdM, b2i, c19, c29, c33, c39, c55]; try simp [mq, ix, *] , rfl⟩)
          · have c55 := b2i1 c55
            refine lv_aload_n hx hb d_Mo_tied_58 rfl (lv_at hl 2 rfl) ?_
            refine va_get (D := gD G) (ci := 7) (v := .ref (gad G 21)) (C := R_Mo) (T := F_Mo) (N := 29) hx hb (wl_Mo hT) (fun _ h9 => h9) hown hK hP 0 rfl rfl 0 (by decide) (k_570 hT) (fun _ h9 => h9) rfl d_Mo_tied_59 ?_
            refine lv_iload_n hx hb d_Mo_tied_62 rfl (lv_at hl 4 rfl) ?_
            refine va_iald (f := (mJ σ 6)) hx hb hK hP 1 0 rfl rfl (h2) d_Mo_tied_63 ?_
            refine lv_bipush (v := 6) hx hb d_Mo_tied_64 (by decide) ?_
            refine lv_bipush (v := 13) hx hb d_Mo_tied_66 (by decide) ?_
            refine cx_S (n := 3) (As := [.int ((mJ σ 6) k.toNatClampNeg), .int 6, .int 13]) (rest := []) ⟨hx, hb, hml, hown, fun _ h9 => nomatch h9⟩ (K_Mo_in g σ ((mJ σ 6) k.toNatClampNeg) 6 13 ) (k_666 hT) (k_667 hT) (k_668 hT) (k_9 hT) rfl (by decide +kernel) (hc.at g hS hP) ⟨by decide, by decide⟩ ⟨by decide, by decide⟩ hl.1 (Nat.le_of_ble_eq_true rfl) d_Mo_tied_68 (fun _ h9 => h9) hS (fun _ _ _ _ _ _ _ h9 => h9.elim) (fun v t H locs ht9 hRt hz hk hS => ?_)
            obtain ⟨r, u, rfl, ⟨er, eu⟩, hP⟩ := hRt
            subst er
            rw [eu, ht9] at hP
            have hD : va_D (gA G) (mw G σ) := g.d
            refine W.eq (g2 := F0 m 71 ls [.int (b2i (inF ((mJ σ 6) k.toNatClampNeg) 6 13))]) rfl ?_
            refine lv_if_eq (tgt := 78) hx hb d_Mo_tied_71 (by decide) (fun c71 => ?_) (fun c71 => ?_)
            · have c71 := b2i0 c71
              refine lv_iconst (v := 0) hx hb d_Mo_tied_78 (by decide) ?_
              exact mend_z (u := σ) hx hb hr hlocks hS hP d_Mo_tied_79 rfl (⟨by simp [tdM, b2i, c19, c29, c33, c39, c55, c71]; try simp [mq, ix, *] , rfl⟩)
            · have c71 := b2i1 c71
              refine lv_iconst (v := 1) hx hb d_Mo_tied_74 (by decide) ?_
              refine lv_goto (tgt := 79) hx hb d_Mo_tied_75 (by decide) ?_
              exact mend_z (u := σ) hx hb hr hlocks hS hP d_Mo_tied_79 rfl (⟨by simp [tdM, b2i, c19, c29, c33, c39, c55, c71]; try simp [mq, ix, *] , rfl⟩)

set_option maxHeartbeats 4000000 in
set_option maxRecDepth 100000 in
theorem K_Mo_missGroup {l : Launch} {G : GT} (g : MOK l G) (σ : MS) (i : Int32) (h : vp_in i 24) : cx_M l y_Mo_missGroup (.code y_Mo_missGroup b_Mo_missGroup 3 (some .boolean)) 0 0 (gA G) [.ref (gad G 20), .int i] (Mw G σ) (Mi G (fun r u => r = b2i (mgF σ i).1 ∧ u = (mgF σ i).2)) (Tn) := by
  refine cx_of (by decide +kernel) ?_
  intro p e s m below meth c s₁ B hml ht hc
  have hx := B.exec
  have hb := B.bytes
  have hr := B.returns
  have hown : s.vm.findClass R_Mo = some m.cls := findClass_of_methodNamed B.named
  have hlocks := B.notSynchronized
  have hT := g.tb hc
  have hK := g.k hc
  have hD := g.d (τ := σ)
  have hS : va_S (gA G) s.heap s.heap [] := va_S.rf
  have hP := hc.2.2
  have hl := lv_entry ([.ref (gad G 20), .int i]) (n := 3) (Nat.le_of_ble_eq_true rfl)
  rw [lg_entry_eq]
  generalize (lg_sl ([.ref (gad G 20), .int i]) ++ List.replicate (3 - (lg_sl ([.ref (gad G 20), .int i])).length) Slot.unset).toArray = ls at hl ⊢
  have hl : lv_has ls 3 [(0, .ref (gad G 20)), (1, .int i)] := hl
  refine lv_iload_n hx hb d_Mo_missGroup_0 rfl (lv_at hl 1 rfl) ?_
  refine lv_iconst (v := 4) hx hb d_Mo_missGroup_1 (by decide) ?_
  refine lv_idiv hx hb d_Mo_missGroup_2 (by decide) ?_
  refine lv_istore_n (lv' := [(2, .int (i / 4)), (0, .ref (gad G 20)), (1, .int i)]) hx hb d_Mo_missGroup_3 rfl hl (by decide) rfl (fun ls hl => ?_)
  refine lv_aload_n hx hb d_Mo_missGroup_4 rfl (lv_at hl 1 rfl) ?_
  refine va_get (D := gD G) (ci := 7) (v := .ref (gad G 28)) (C := R_Mo) (T := F_Mo) (N := 29) hx hb (wl_Mo hT) (fun _ h9 => h9) hown hK hP 0 rfl rfl 7 (by decide) (k_577 hT) (fun _ h9 => h9) rfl d_Mo_missGroup_5 ?_
  refine lv_iload_n hx hb d_Mo_missGroup_8 rfl (lv_at hl 0 rfl) ?_
  refine lv_iconst (v := 2) hx hb d_Mo_missGroup_9 (by decide) ?_
  refine lv_irem hx hb d_Mo_missGroup_10 (by decide) ?_
  refine va_iald (f := (mJ σ 2)) hx hb hK hP 8 0 rfl rfl (at42 h) d_Mo_missGroup_11 ?_
  refine lv_iload_n hx hb d_Mo_missGroup_12 rfl (lv_at hl 0 rfl) ?_
  refine lv_icmp_ne (tgt := 18) hx hb d_Mo_missGroup_13 (by decide) (fun c13 => ?_) (fun c13 => ?_)
  · refine lv_aload_n hx hb d_Mo_missGroup_18 rfl (lv_at hl 1 rfl) ?_
    refine va_get (D := gD G) (ci := 7) (v := .ref (gad G 28)) (C := R_Mo) (T := F_Mo) (N := 29) hx hb (wl_Mo hT) (fun _ h9 => h9) hown hK hP 0 rfl rfl 7 (by decide) (k_577 hT) (fun _ h9 => h9) rfl d_Mo_missGroup_19 ?_
    refine lv_iload_n hx hb d_Mo_missGroup_22 rfl (lv_at hl 0 rfl) ?_
    refine lv_iconst (v := 2) hx hb d_Mo_missGroup_23 (by decide) ?_
    refine lv_irem hx hb d_Mo_missGroup_24 (by decide) ?_
    refine lv_iload_n hx hb d_Mo_missGroup_25 rfl (lv_at hl 0 rfl) ?_
    refine va_iast (f := (mJ σ 2)) hx hb hK hP hD hS 8 0 rfl rfl (at42 h) d_Mo_missGroup_26 (fun H locs hP hD hS => ?_)
    have hP : va_P (gD G) classes (mw G (tJ σ 2 (upd (mJ σ 2) ((i / 4) - (i / 4) / 2 * 2).toNatClampNeg (i / 4)))) H := hP
    have hD : va_D (gA G) (mw G (tJ σ 2 (upd (mJ σ 2) ((i / 4) - (i / 4) / 2 * 2).toNatClampNeg (i / 4)))) := g.d
    refine lv_aload_n hx hb d_Mo_missGroup_27 rfl (lv_at hl 1 rfl) ?_
    refine lv_dup hx hb d_Mo_missGroup_28 rfl ?_
    refine va_get (D := gD G) (ci := 7) (v := .int (mI σ 7)) (C := R_Mo) (T := F_Mo) (N := 29) hx hb (wl_Mo hT) (fun _ h9 => h9) hown hK hP 0 rfl rfl 20 (by decide) (k_590 hT) (fun _ h9 => h9) rfl d_Mo_missGroup_29 ?_
    refine lv_iconst (v := 1) hx hb d_Mo_missGroup_32 (by decide) ?_
    refine lv_iadd hx hb d_Mo_missGroup_33 ?_
    refine va_put (D := gD G) (ci := 7) (v := .int ((mI σ 7) + 1)) (ty := .int) (C := R_Mo) (T := F_Mo) (N := 29) hx hb (wl_Mo hT) (fun _ h9 => h9) fy_Mo fy_Mo_ok fn_Mo hown hK hP hD hS 0 rfl rfl 20 (by decide) (k_590 hT) (fun _ h9 => h9) rfl (by decide +kernel) rfl rfl (Nat.le_of_ble_eq_true rfl) d_Mo_missGroup_34 (fun H locs hP hD hS => ?_)
    have hP : va_P (gD G) classes (mw G (tI (tJ σ 2 (upd (mJ σ 2) ((i / 4) - (i / 4) / 2 * 2).toNatClampNeg (i / 4))) 7 ((mI σ 7) + 1))) H := hP
    have hD : va_D (gA G) (mw G (tI (tJ σ 2 (upd (mJ σ 2) ((i / 4) - (i / 4) / 2 * 2).toNatClampNeg (i / 4))) 7 ((mI σ 7) + 1))) := g.d
    refine lv_iconst (v := 1) hx hb d_Mo_missGroup_37 (by decide) ?_
    exact mend_z (u := (tI (tJ σ 2 (upd (mJ σ 2) ((i / 4) - (i / 4) / 2 * 2).toNatClampNeg (i / 4))) 7 ((mI σ 7) + 1))) hx hb hr hlocks hS hP d_Mo_missGroup_38 rfl (⟨by simp [mgF, ix, b2i, c13], by simp [mgF, ix, c13]⟩)
  · refine lv_iconst (v := 0) hx hb d_Mo_missGroup_16 (by decide) ?_
    exact mend_z (u := σ) hx hb hr hlocks hS hP d_Mo_missGroup_17 rfl (⟨by simp [mgF, ix, b2i, c13], by simp [mgF, ix, c13]⟩)

