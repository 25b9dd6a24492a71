/-! CONTRACTS OF THE REFERENCE: the public methods without run and schedule -/
def okC (i o d a b : Int32) : Bool := if inF i 0 23 then (if inF o 0 19 then (if inF d 0 7 then (if inF a 0 7 then inF b 0 7 else false) else false) else false) else false
def cdM (σ : MS) (i o d a b n : Int32) : MS := tJ (tJ (tJ (tJ (tJ (bdF σ true) 6 (upd (mJ σ 6) (ix i) o)) 7 (upd (mJ σ 7) (ix i) d)) 8 (upd (mJ σ 8) (ix i) a)) 9 (upd (mJ σ 9) (ix i) b)) 10 (upd (mJ σ 10) (ix i) n)
def okV (i : Int32) (v : UInt64) : Bool := if inF i 0 47 then !badV v else false
def okT (i w : Int32) : Bool := if inF i 0 23 then inF w 0 4 else false
def cnM (σ : MS) (w : Int32) : Int32 := if inF w 10 17 then mJ σ 1 (ix (w - 10)) else if inF w 20 23 then mJ σ 1 (ix (w - 12)) else
  if w = 0 then mI σ 0 else if w = 1 then (if mI σ 1 = 0 then 0 else 1) else if w = 2 then mI σ 2 else if w = 3 then mI σ 3 else if w = 4 then mI σ 7 else if w = 5 then mI σ 8 else if w = 6 then mI σ 10 else -2
theorem inF_sub {w l h : Int32} {n : Nat} (k : inF w l h = true) (h1 : h.toInt - l.toInt + 1 = n) (h2 : 0 ≤ l.toInt) (h3 : h.toInt < 100) : vp_in (w - l) n := by
  obtain ⟨q1, q2⟩ := inF_t k
  rw [Int32.lt_iff_toInt_lt] at q1 q2
  rw [vp_in_iff, Int32.toInt_sub, Int.bmod_eq_of_le_mul_two (by omega) (by omega)]
  omega
theorem inF_sub2 {w : Int32} (k : inF w 20 23 = true) : vp_in (w - 12) 12 := by
  obtain ⟨q1, q2⟩ := inF_t k
  rw [Int32.lt_iff_toInt_lt] at q1 q2
  have a1 : (20 : Int32).toInt = 20 := by decide
  have a2 : (23 : Int32).toInt = 23 := by decide
  have a3 : (12 : Int32).toInt = 12 := by decide
  rw [vp_in_iff, Int32.toInt_sub, a3, Int.bmod_eq_of_le_mul_two (by omega) (by omega)]
  omega
theorem inF_sub1 {w : Int32} (k : inF w 10 17 = true) : vp_in (w - 10) 12 := by
  obtain ⟨q1, q2⟩ := inF_t k
  rw [Int32.lt_iff_toInt_lt] at q1 q2
  have a1 : (10 : Int32).toInt = 10 := by decide
  have a2 : (17 : Int32).toInt = 17 := by decide
  rw [vp_in_iff, Int32.toInt_sub, a1, Int.bmod_eq_of_le_mul_two (by omega) (by omega)]
  omega
set_option maxHeartbeats 4000000 in
set_option maxRecDepth 100000 in
theorem K_Mo_whole {l : Launch} {G : GT} (g : MOK l G) (σ : MS) (r : Int32) : cx_M l y_Mo_whole (.code y_Mo_whole b_Mo_whole 2 (some .int)) 1 22 (gA G) [.ref (gad G 20), .int r] (Mw G σ) (Mi G (fun v u => v = (if inF r 0 7 then mJ σ 0 (ix r) else 0) ∧ u = bdF σ (inF r 0 7))) (Tn) := by
  refine cx_of (by decide +kernel) ?_
  intro p e s m below meth c s₁ B hml ht hc
  have hx := B.exec
  have hb := B.bytes
  have hr := B.returns
  have hown : s.vm.findClass R_Mo = some m.cls := findClass_of_methodNamed B.named
  have hlocks := B.notSynchronized
  have hT := g.tb hc
  have hK := g.k hc
  have hD := g.d (τ := σ)
  have hS : va_S (gA G) s.heap s.heap [] := va_S.rf
  have hP := hc.2.2
  have hl := lv_entry ([.ref (gad G 20), .int r]) (n := 2) (Nat.le_of_ble_eq_true rfl)
  rw [lg_entry_eq]
  generalize (lg_sl ([.ref (gad G 20), .int r]) ++ List.replicate (2 - (lg_sl ([.ref (gad G 20), .int r])).length) Slot.unset).toArray = ls at hl ⊢
  have hl : lv_has ls 2 [(0, .ref (gad G 20)), (1, .int r)] := hl
  refine lv_aload_n hx hb d_Mo_whole_0 rfl (lv_at hl 0 rfl) ?_
  refine lv_iload_n hx hb d_Mo_whole_1 rfl (lv_at hl 1 rfl) ?_
  refine lv_iconst (v := 0) hx hb d_Mo_whole_2 (by decide) ?_
  refine lv_bipush (v := 7) hx hb d_Mo_whole_3 (by decide) ?_
  refine cx_S (n := 3) (As := [.int r, .int 0, .int 7]) (rest := [.ref (gad G 20)]) ⟨hx, hb, hml, hown, fun _ h9 => nomatch h9⟩ (K_Mo_in g σ r 0 7 ) (k_666 hT) (k_667 hT) (k_668 hT) (k_9 hT) rfl (by decide +kernel) (hc.at g hS hP) ⟨by decide, by decide⟩ ⟨by decide, by decide⟩ hl.1 (Nat.le_of_ble_eq_true rfl) d_Mo_whole_5 (fun _ h9 => h9) hS (fun _ _ _ _ _ _ _ h9 => h9.elim) (fun v t H locs ht9 hRt hz hk hS => ?_)
  obtain ⟨r, u, rfl, ⟨er, eu⟩, hP⟩ := hRt
  subst er
  rw [eu, ht9] at hP
  have hD : va_D (gA G) (mw G σ) := g.d
  refine W.eq (g2 := F0 m 8 ls [.int (b2i (inF r 0 7)), .ref (gad G 20)]) rfl ?_
  refine cx_V (n := 1) (C := R_Mo) (As := [.int (b2i (inF r 0 7))]) (rest := []) ⟨hx, hb, hml, hown, fun _ h9 => nomatch h9⟩ (K_Mo_bad g σ (inF r 0 7)) (k_669 hT) (k_671 hT) (ks_19 hT) (k_672 hT) (k_9 hT) rfl (by decide +kernel) (va_recv hK hP (ci := 7) (q0 := 0) rfl rfl) (hc.at g hS hP) ⟨by decide, by decide⟩ ⟨by decide, by decide⟩ hl.1 (Nat.le_of_ble_eq_true rfl) d_Mo_whole_8 (fun _ h9 => h9) hS (fun _ _ _ _ _ _ _ h9 => h9.elim) (fun v t H locs ht9 hRt hz hk hS => ?_)
  obtain ⟨r, u, rfl, ⟨er, eu⟩, hP⟩ := hRt
  subst er
  rw [eu, ht9] at hP
  have hD : va_D (gA G) (mw G (bdF σ (inF r 0 7))) := g.d
  refine W.eq (g2 := F0 m 11 ls [.int (b2i (!(inF r 0 7)))]) rfl ?_
  refine lv_if_eq (tgt := 16) hx hb d_Mo_whole_11 (by decide) (fun c11 => ?_) (fun c11 => ?_)
  · have c11 := b2i0 c11
    refine lv_aload_n hx hb d_Mo_whole_16 rfl (lv_at hl 0 rfl) ?_
    refine va_get (D := gD G) (ci := 7) (v := .ref (gad G 26)) (C := R_Mo) (T := F_Mo) (N := 29) hx hb (wl_Mo hT) (fun _ h9 => h9) hown hK hP 0 rfl rfl 5 (by decide) (k_575 hT) (fun _ h9 => h9) rfl d_Mo_whole_17 ?_
    refine lv_iload_n hx hb d_Mo_whole_20 rfl (lv_at hl 1 rfl) ?_
    refine va_iald (f := (mJ (bdF σ (inF r 0 7)) 0)) hx hb hK hP 6 0 rfl rfl (inF_in (h := 7) (by decide) (by simpa using c11)) d_Mo_whole_21 ?_
    exact mend_i (u := (bdF σ (inF r 0 7))) hx hb hr hlocks hS hP d_Mo_whole_22 (⟨by rw [if_pos (by simpa using c11)]; rfl, rfl⟩)
  · have c11 := b2i1 c11
    refine lv_iconst (v := 0) hx hb d_Mo_whole_14 (by decide) ?_
    exact mend_i (u := (bdF σ (inF r 0 7))) hx hb hr hlocks hS hP d_Mo_whole_15 (⟨by rw [if_neg (by simpa using c11)], rfl⟩)

set_option maxHeartbeats 4000000 in
set_option maxRecDepth 100000 in
theorem K_Mo_fraction {l : Launch} {G : GT} (g : MOK l G) (σ : MS) (r : Int32) : cx_M l y_Mo_fraction (.code y_Mo_fraction b_Mo_fraction 2 (some .double)) 1 22 (gA G) [.ref (gad G 20), .int r] (Mw G σ) (Md G (fun v u => v = (if inF r 0 3 then mF σ 1 (ix r) else FP.dconst0) ∧ u = bdF σ (inF r 0 3))) (Tn) := by
  refine cx_of (by decide +kernel) ?_
  intro p e s m below meth c s₁ B hml ht hc
  have hx := B.exec
  have hb := B.bytes
  have hr := B.returns
  have hown : s.vm.findClass R_Mo = some m.cls := findClass_of_methodNamed B.named
  have hlocks := B.notSynchronized
  have hT := g.tb hc
  have hK := g.k hc
  have hD := g.d (τ := σ)
  have hS : va_S (gA G) s.heap s.heap [] := va_S.rf
  have hP := hc.2.2
  have hl := lv_entry ([.ref (gad G 20), .int r]) (n := 2) (Nat.le_of_ble_eq_true rfl)
  rw [lg_entry_eq]
  generalize (lg_sl ([.ref (gad G 20), .int r]) ++ List.replicate (2 - (lg_sl ([.ref (gad G 20), .int r])).length) Slot.unset).toArray = ls at hl ⊢
  have hl : lv_has ls 2 [(0, .ref (gad G 20)), (1, .int r)] := hl
  refine lv_aload_n hx hb d_Mo_fraction_0 rfl (lv_at hl 0 rfl) ?_
  refine lv_iload_n hx hb d_Mo_fraction_1 rfl (lv_at hl 1 rfl) ?_
  refine lv_iconst (v := 0) hx hb d_Mo_fraction_2 (by decide) ?_
  refine lv_iconst (v := 3) hx hb d_Mo_fraction_3 (by decide) ?_
  refine cx_S (n := 3) (As := [.int r, .int 0, .int 3]) (rest := [.ref (gad G 20)]) ⟨hx, hb, hml, hown, fun _ h9 => nomatch h9⟩ (K_Mo_in g σ r 0 3 ) (k_666 hT) (k_667 hT) (k_668 hT) (k_9 hT) rfl (by decide +kernel) (hc.at g hS hP) ⟨by decide, by decide⟩ ⟨by decide, by decide⟩ hl.1 (Nat.le_of_ble_eq_true rfl) d_Mo_fraction_4 (fun _ h9 => h9) hS (fun _ _ _ _ _ _ _ h9 => h9.elim) (fun v t H locs ht9 hRt hz hk hS => ?_)
  obtain ⟨r, u, rfl, ⟨er, eu⟩, hP⟩ := hRt
  subst er
  rw [eu, ht9] at hP
  have hD : va_D (gA G) (mw G σ) := g.d
  refine W.eq (g2 := F0 m 7 ls [.int (b2i (inF r 0 3)), .ref (gad G 20)]) rfl ?_
  refine cx_V (n := 1) (C := R_Mo) (As := [.int (b2i (inF r 0 3))]) (rest := []) ⟨hx, hb, hml, hown, fun _ h9 => nomatch h9⟩ (K_Mo_bad g σ (inF r 0 3)) (k_669 hT) (k_671 hT) (ks_19 hT) (k_672 hT) (k_9 hT) rfl (by decide +kernel) (va_recv hK hP (ci := 7) (q0 := 0) rfl rfl) (hc.at g hS hP) ⟨by decide, by decide⟩ ⟨by decide, by decide⟩ hl.1 (Nat.le_of_ble_eq_true rfl) d_Mo_fraction_7 (fun _ h9 => h9) hS (fun _ _ _ _ _ _ _ h9 => h9.elim) (fun v t H locs ht9 hRt hz hk hS => ?_)
  obtain ⟨r, u, rfl, ⟨er, eu⟩, hP⟩ := hRt
  subst er
  rw [eu, ht9] at hP
  have hD : va_D (gA G) (mw G (bdF σ (inF r 0 3))) := g.d
  refine W.eq (g2 := F0 m 10 ls [.int (b2i (!(inF r 0 3)))]) rfl ?_
  refine lv_if_eq (tgt := 15) hx hb d_Mo_fraction_10 (by decide) (fun c10 => ?_) (fun c10 => ?_)
  · have c10 := b2i0 c10
    refine lv_aload_n hx hb d_Mo_fraction_15 rfl (lv_at hl 0 rfl) ?_
    refine va_get (D := gD G) (ci := 7) (v := .ref (gad G 32)) (C := R_Mo) (T := F_Mo) (N := 29) hx hb (wl_Mo hT) (fun _ h9 => h9) hown hK hP 0 rfl rfl 11 (by decide) (k_581 hT) (fun _ h9 => h9) rfl d_Mo_fraction_16 ?_
    refine lv_iload_n hx hb d_Mo_fraction_19 rfl (lv_at hl 1 rfl) ?_
    refine va_dald (f := (mF (bdF σ (inF r 0 3)) 1)) hx hb hK hP 12 1 rfl rfl (inF_in (h := 3) (by decide) (by simpa using c10)) d_Mo_fraction_20 ?_
    exact mend_d (u := (bdF σ (inF r 0 3))) hx hb hr hlocks hS hP d_Mo_fraction_21 (⟨by rw [if_pos (by simpa using c10)]; rfl, rfl⟩)
  · have c10 := b2i1 c10
    refine lv_dconst0 hx hb d_Mo_fraction_13 ?_
    exact mend_d (u := (bdF σ (inF r 0 3))) hx hb hr hlocks hS hP d_Mo_fraction_14 (⟨by rw [if_neg (by simpa using c10)], rfl⟩)

set_option maxHeartbeats 4000000 in
set_option maxRecDepth 100000 in
theorem K_Mo_memory {l : Launch} {G : GT} (g : MOK l G) (σ : MS) (r : Int32) : cx_M l y_Mo_memory (.code y_Mo_memory b_Mo_memory 2 (some .double)) 1 22 (gA G) [.ref (gad G 20), .int r] (Mw G σ) (Md G (fun v u => v = (if inF r 0 47 then mF σ 0 (ix r) else FP.dconst0) ∧ u = bdF σ (inF r 0 47))) (Tn) := by
  refine cx_of (by decide +kernel) ?_
  intro p e s m below meth c s₁ B hml ht hc
  have hx := B.exec
  have hb := B.bytes
  have hr := B.returns
  have hown : s.vm.findClass R_Mo = some m.cls := findClass_of_methodNamed B.named
  have hlocks := B.notSynchronized
  have hT := g.tb hc
  have hK := g.k hc
  have hD := g.d (τ := σ)
  have hS : va_S (gA G) s.heap s.heap [] := va_S.rf
  have hP := hc.2.2
  have hl := lv_entry ([.ref (gad G 20), .int r]) (n := 2) (Nat.le_of_ble_eq_true rfl)
  rw [lg_entry_eq]
  generalize (lg_sl ([.ref (gad G 20), .int r]) ++ List.replicate (2 - (lg_sl ([.ref (gad G 20), .int r])).length) Slot.unset).toArray = ls at hl ⊢
  have hl : lv_has ls 2 [(0, .ref (gad G 20)), (1, .int r)] := hl
  refine lv_aload_n hx hb d_Mo_memory_0 rfl (lv_at hl 0 rfl) ?_
  refine lv_iload_n hx hb d_Mo_memory_1 rfl (lv_at hl 1 rfl) ?_
  refine lv_iconst (v := 0) hx hb d_Mo_memory_2 (by decide) ?_
  refine lv_bipush (v := 47) hx hb d_Mo_memory_3 (by decide) ?_
  refine cx_S (n := 3) (As := [.int r, .int 0, .int 47]) (rest := [.ref (gad G 20)]) ⟨hx, hb, hml, hown, fun _ h9 => nomatch h9⟩ (K_Mo_in g σ r 0 47 ) (k_666 hT) (k_667 hT) (k_668 hT) (k_9 hT) rfl (by decide +kernel) (hc.at g hS hP) ⟨by decide, by decide⟩ ⟨by decide, by decide⟩ hl.1 (Nat.le_of_ble_eq_true rfl) d_Mo_memory_5 (fun _ h9 => h9) hS (fun _ _ _ _ _ _ _ h9 => h9.elim) (fun v t H locs ht9 hRt hz hk hS => ?_)
  obtain ⟨r, u, rfl, ⟨er, eu⟩, hP⟩ := hRt
  subst er
  rw [eu, ht9] at hP
  have hD : va_D (gA G) (mw G σ) := g.d
  refine W.eq (g2 := F0 m 8 ls [.int (b2i (inF r 0 47)), .ref (gad G 20)]) rfl ?_
  refine cx_V (n := 1) (C := R_Mo) (As := [.int (b2i (inF r 0 47))]) (rest := []) ⟨hx, hb, hml, hown, fun _ h9 => nomatch h9⟩ (K_Mo_bad g σ (inF r 0 47)) (k_669 hT) (k_671 hT) (ks_19 hT) (k_672 hT) (k_9 hT) rfl (by decide +kernel) (va_recv hK hP (ci := 7) (q0 := 0) rfl rfl) (hc.at g hS hP) ⟨by decide, by decide⟩ ⟨by decide, by decide⟩ hl.1 (Nat.le_of_ble_eq_true rfl) d_Mo_memory_8 (fun _ h9 => h9) hS (fun _ _ _ _ _ _ _ h9 => h9.elim) (fun v t H locs ht9 hRt hz hk hS => ?_)
  obtain ⟨r, u, rfl, ⟨er, eu⟩, hP⟩ := hRt
  subst er
  rw [eu, ht9] at hP
  have hD : va_D (gA G) (mw G (bdF σ (inF r 0 47))) := g.d
  refine W.eq (g2 := F0 m 11 ls [.int (b2i (!(inF r 0 47)))]) rfl ?_
  refine lv_if_eq (tgt := 16) hx hb d_Mo_memory_11 (by decide) (fun c11 => ?_) (fun c11 => ?_)
  · have c11 := b2i0 c11
    refine lv_aload_n hx hb d_Mo_memory_16 rfl (lv_at hl 0 rfl) ?_
    refine va_get (D := gD G) (ci := 7) (v := .ref (gad G 33)) (C := R_Mo) (T := F_Mo) (N := 29) hx hb (wl_Mo hT) (fun _ h9 => h9) hown hK hP 0 rfl rfl 12 (by decide) (k_582 hT) (fun _ h9 => h9) rfl d_Mo_memory_17 ?_
    refine lv_iload_n hx hb d_Mo_memory_20 rfl (lv_at hl 1 rfl) ?_
    refine va_dald (f := (mF (bdF σ (inF r 0 47)) 0)) hx hb hK hP 13 1 rfl rfl (inF_in (h := 47) (by decide) (by simpa using c11)) d_Mo_memory_21 ?_
    exact mend_d (u := (bdF σ (inF r 0 47))) hx hb hr hlocks hS hP d_Mo_memory_22 (⟨by rw [if_pos (by simpa using c11)]; rfl, rfl⟩)
  · have c11 := b2i1 c11
    refine lv_dconst0 hx hb d_Mo_memory_14 ?_
    exact mend_d (u := (bdF σ (inF r 0 47))) hx hb hr hlocks hS hP d_Mo_memory_15 (⟨by rw [if_neg (by simpa using c11)], rfl⟩)

set_option maxHeartbeats 4000000 in
set_option maxRecDepth 100000 in
theorem K_Mo_told {l : Launch} {G : GT} (g : MOK l G) (σ : MS) (i w : Int32) : cx_M l y_Mo_told (.code y_Mo_told b_Mo_told 3 (some .int)) 1 22 (gA G) [.ref (gad G 20), .int i, .int w] (Mw G σ) (Mi G (fun v u => v = (if okT i w then toldF (mq σ (ix i)) w else 0) ∧ u = bdF σ (okT i w))) (Tn) := by
  refine cx_of (by decide +kernel) ?_
  intro p e s m below meth c s₁ B hml ht hc
  have hx := B.exec
  have hb := B.bytes
  have hr := B.returns
  have hown : s.vm.findClass R_Mo = some m.cls := findClass_of_methodNamed B.named
  have hlocks := B.notSynchronized
  have hT := g.tb hc
  have hK := g.k hc
  have hD := g.d (τ := σ)
  have hS : va_S (gA G) s.heap s.heap [] := va_S.rf
  have hP := hc.2.2
  have hl := lv_entry ([.ref (gad G 20), .int i, .int w]) (n := 3) (Nat.le_of_ble_eq_true rfl)
  rw [lg_entry_eq]
  generalize (lg_sl ([.ref (gad G 20), .int i, .int w]) ++ List.replicate (3 - (lg_sl ([.ref (gad G 20), .int i, .int w])).length) Slot.unset).toArray = ls at hl ⊢
  have hl : lv_has ls 3 [(0, .ref (gad G 20)), (1, .int i), (2, .int w)] := hl
  refine lv_aload_n hx hb d_Mo_told_0 rfl (lv_at hl 0 rfl) ?_
  refine lv_iload_n hx hb d_Mo_told_1 rfl (lv_at hl 1 rfl) ?_
  refine lv_iconst (v := 0) hx hb d_Mo_told_2 (by decide) ?_
  refine lv_bipush (v := 23) hx hb d_Mo_told_3 (by decide) ?_
  refine cx_S (n := 3) (As := [.int i, .int 0, .int 23]) (rest := [.ref (gad G 20)]) ⟨hx, hb, hml, hown, fun _ h9 => nomatch h9⟩ (K_Mo_in g σ i 0 23 ) (k_666 hT) (k_667 hT) (k_668 hT) (k_9 hT) rfl (by decide +kernel) (hc.at g hS hP) ⟨by decide, by decide⟩ ⟨by decide, by decide⟩ hl.1 (Nat.le_of_ble_eq_true rfl) d_Mo_told_5 (fun _ h9 => h9) hS (fun _ _ _ _ _ _ _ h9 => h9.elim) (fun v t H locs ht9 hRt hz hk hS => ?_)
  obtain ⟨r, u, rfl, ⟨er, eu⟩, hP⟩ := hRt
  subst er
  rw [eu, ht9] at hP
  have hD : va_D (gA G) (mw G σ) := g.d
  refine W.eq (g2 := F0 m 8 ls [.int (b2i (inF i 0 23)), .ref (gad G 20)]) rfl ?_
  refine lv_if_eq (tgt := 24) hx hb d_Mo_told_8 (by decide) (fun c8 => ?_) (fun c8 => ?_)
  · have c8 := b2i0 c8
    refine lv_iconst (v := 0) hx hb d_Mo_told_24 (by decide) ?_
    refine cx_V (n := 1) (C := R_Mo) (As := [.int 0]) (rest := []) ⟨hx, hb, hml, hown, fun _ h9 => nomatch h9⟩ (K_Mo_bad g σ false) (k_669 hT) (k_671 hT) (ks_19 hT) (k_672 hT) (k_9 hT) rfl (by decide +kernel) (va_recv hK hP (ci := 7) (q0 := 0) rfl rfl) (hc.at g hS hP) ⟨by decide, by decide⟩ ⟨by decide, by decide⟩ hl.1 (Nat.le_of_ble_eq_true rfl) d_Mo_told_25 (fun _ h9 => h9) hS (fun _ _ _ _ _ _ _ h9 => h9.elim) (fun v t H locs ht9 hRt hz hk hS => ?_)
    obtain ⟨r, u, rfl, ⟨er, eu⟩, hP⟩ := hRt
    subst er
    rw [eu, ht9] at hP
    have hD : va_D (gA G) (mw G (bdF σ false)) := g.d
    refine W.eq (g2 := F0 m 28 ls [.int 1]) rfl ?_
    refine lv_if_eq (tgt := 33) hx hb d_Mo_told_28 (by decide) (fun c28 => ?_) (fun c28 => ?_)
    · exact absurd c28 (by decide)
    · refine lv_iconst (v := 0) hx hb d_Mo_told_31 (by decide) ?_
      exact mend_i (u := (bdF σ false)) hx hb hr hlocks hS hP d_Mo_told_32 (⟨by rw [if_neg (by unfold okT; simp [c8])], by unfold okT; rw [if_neg (by simp [c8])]⟩)
  · have c8 := b2i1 c8
    refine lv_iload_n hx hb d_Mo_told_11 rfl (lv_at hl 2 rfl) ?_
    refine lv_iconst (v := 0) hx hb d_Mo_told_12 (by decide) ?_
    refine lv_iconst (v := 4) hx hb d_Mo_told_13 (by decide) ?_
    refine cx_S (n := 3) (As := [.int w, .int 0, .int 4]) (rest := [.ref (gad G 20)]) ⟨hx, hb, hml, hown, fun _ h9 => nomatch h9⟩ (K_Mo_in g σ w 0 4 ) (k_666 hT) (k_667 hT) (k_668 hT) (k_9 hT) rfl (by decide +kernel) (hc.at g hS hP) ⟨by decide, by decide⟩ ⟨by decide, by decide⟩ hl.1 (Nat.le_of_ble_eq_true rfl) d_Mo_told_14 (fun _ h9 => h9) hS (fun _ _ _ _ _ _ _ h9 => h9.elim) (fun v t H locs ht9 hRt hz hk hS => ?_)
    obtain ⟨r, u, rfl, ⟨er, eu⟩, hP⟩ := hRt
    subst er
    rw [eu, ht9] at hP
    have hD : va_D (gA G) (mw G σ) := g.d
    refine W.eq (g2 := F0 m 17 ls [.int (b2i (inF w 0 4)), .ref (gad G 20)]) rfl ?_
    refine lv_if_eq (tgt := 24) hx hb d_Mo_told_17 (by decide) (fun c17 => ?_) (fun c17 => ?_)
    · have c17 := b2i0 c17
      refine lv_iconst (v := 0) hx hb d_Mo_told_24 (by decide) ?_
      refine cx_V (n := 1) (C := R_Mo) (As := [.int 0]) (rest := []) ⟨hx, hb, hml, hown, fun _ h9 => nomatch h9⟩ (K_Mo_bad g σ false) (k_669 hT) (k_671 hT) (ks_19 hT) (k_672 hT) (k_9 hT) rfl (by decide +kernel) (va_recv hK hP (ci := 7) (q0 := 0) rfl rfl) (hc.at g hS hP) ⟨by decide, by decide⟩ ⟨by decide, by decide⟩ hl.1 (Nat.le_of_ble_eq_true rfl) d_Mo_told_25 (fun _ h9 => h9) hS (fun _ _ _ _ _ _ _ h9 => h9.elim) (fun v t H locs ht9 hRt hz hk hS => ?_)
      obtain ⟨r, u, rfl, ⟨er, eu⟩, hP⟩ := hRt
      subst er
      rw [eu, ht9] at hP
      have hD : va_D (gA G) (mw G (bdF σ false)) := g.d
      refine W.eq (g2 := F0 m 28 ls [.int 1]) rfl ?_
      refine lv_if_eq (tgt := 33) hx hb d_Mo_told_28 (by decide) (fun c28 => ?_) (fun c28 => ?_)
      · exact absurd c28 (by decide)
      · refine lv_iconst (v := 0) hx hb d_Mo_told_31 (by decide) ?_
        exact mend_i (u := (bdF σ false)) hx hb hr hlocks hS hP d_Mo_told_32 (⟨by rw [if_neg (by unfold okT; simp [c8, c17])], by unfold okT; rw [if_pos c8, c17]⟩)
    · have c17 := b2i1 c17
      refine lv_iconst (v := 1) hx hb d_Mo_told_20 (by decide) ?_
      refine lv_goto (tgt := 25) hx hb d_Mo_told_21 (by decide) ?_
      refine cx_V (n := 1) (C := R_Mo) (As := [.int 1]) (rest := []) ⟨hx, hb, hml, hown, fun _ h9 => nomatch h9⟩ (K_Mo_bad g σ true) (k_669 hT) (k_671 hT) (ks_19 hT) (k_672 hT) (k_9 hT) rfl (by decide +kernel) (va_recv hK hP (ci := 7) (q0 := 0) rfl rfl) (hc.at g hS hP) ⟨by decide, by decide⟩ ⟨by decide, by decide⟩ hl.1 (Nat.le_of_ble_eq_true rfl) d_Mo_told_25 (fun _ h9 => h9) hS (fun _ _ _ _ _ _ _ h9 => h9.elim) (fun v t H locs ht9 hRt hz hk hS => ?_)
      obtain ⟨r, u, rfl, ⟨er, eu⟩, hP⟩ := hRt
      subst er
      rw [eu, ht9] at hP
      have hD : va_D (gA G) (mw G (bdF σ true)) := g.d
      refine W.eq (g2 := F0 m 28 ls [.int 0]) rfl ?_
      refine lv_if_eq (tgt := 33) hx hb d_Mo_told_28 (by decide) (fun c28 => ?_) (fun c28 => ?_)
      · refine lv_iload_n hx hb d_Mo_told_33 rfl (lv_at hl 2 rfl) ?_
        refine lv_if_ne (tgt := 46) hx hb d_Mo_told_34 (by decide) (fun c34 => ?_) (fun c34 => ?_)
        · refine lv_iload_n hx hb d_Mo_told_46 rfl (lv_at hl 2 rfl) ?_
          refine lv_iconst (v := 1) hx hb d_Mo_told_47 (by decide) ?_
          refine lv_icmp_ne (tgt := 60) hx hb d_Mo_told_48 (by decide) (fun c48 => ?_) (fun c48 => ?_)
          · refine lv_iload_n hx hb d_Mo_told_60 rfl (lv_at hl 2 rfl) ?_
            refine lv_iconst (v := 2) hx hb d_Mo_told_61 (by decide) ?_
            refine lv_icmp_ne (tgt := 74) hx hb d_Mo_told_62 (by decide) (fun c62 => ?_) (fun c62 => ?_)
            · refine lv_iload_n hx hb d_Mo_told_74 rfl (lv_at hl 2 rfl) ?_
              refine lv_iconst (v := 3) hx hb d_Mo_told_75 (by decide) ?_
              refine lv_icmp_ne (tgt := 88) hx hb d_Mo_told_76 (by decide) (fun c76 => ?_) (fun c76 => ?_)
              · refine lv_aload_n hx hb d_Mo_told_88 rfl (lv_at hl 0 rfl) ?_
                refine va_get (D := gD G) (ci := 7) (v := .ref (gad G 25)) (C := R_Mo) (T := F_Mo) (N := 29) hx hb (wl_Mo hT) (fun _ h9 => h9) hown hK hP 0 rfl rfl 4 (by decide) (k_574 hT) (fun _ h9 => h9) rfl d_Mo_told_89 ?_
                refine lv_iload_n hx hb d_Mo_told_92 rfl (lv_at hl 1 rfl) ?_
                refine va_iald (f := (mJ (bdF σ true) 10)) hx hb hK hP 5 0 rfl rfl (inF_in (by decide) c8) d_Mo_told_93 ?_
                exact mend_i (u := (bdF σ true)) hx hb hr hlocks hS hP d_Mo_told_94 (⟨by rw [if_pos (by unfold okT; simp [c8, c17])]; unfold toldF mq; simp [ix, c34, c48, c62, c76]; rfl, by unfold okT; rw [if_pos c8, c17]⟩)
              · refine lv_aload_n hx hb d_Mo_told_79 rfl (lv_at hl 0 rfl) ?_
                refine va_get (D := gD G) (ci := 7) (v := .ref (gad G 24)) (C := R_Mo) (T := F_Mo) (N := 29) hx hb (wl_Mo hT) (fun _ h9 => h9) hown hK hP 0 rfl rfl 3 (by decide) (k_573 hT) (fun _ h9 => h9) rfl d_Mo_told_80 ?_
                refine lv_iload_n hx hb d_Mo_told_83 rfl (lv_at hl 1 rfl) ?_
                refine va_iald (f := (mJ (bdF σ true) 9)) hx hb hK hP 4 0 rfl rfl (inF_in (by decide) c8) d_Mo_told_84 ?_
                refine lv_goto (tgt := 94) hx hb d_Mo_told_85 (by decide) ?_
                exact mend_i (u := (bdF σ true)) hx hb hr hlocks hS hP d_Mo_told_94 (⟨by rw [if_pos (by unfold okT; simp [c8, c17])]; unfold toldF mq; simp [ix, c34, c48, c62, eq_true c76]; rfl, by unfold okT; rw [if_pos c8, c17]⟩)
            · refine lv_aload_n hx hb d_Mo_told_65 rfl (lv_at hl 0 rfl) ?_
              refine va_get (D := gD G) (ci := 7) (v := .ref (gad G 23)) (C := R_Mo) (T := F_Mo) (N := 29) hx hb (wl_Mo hT) (fun _ h9 => h9) hown hK hP 0 rfl rfl 2 (by decide) (k_572 hT) (fun _ h9 => h9) rfl d_Mo_told_66 ?_
              refine lv_iload_n hx hb d_Mo_told_69 rfl (lv_at hl 1 rfl) ?_
              refine va_iald (f := (mJ (bdF σ true) 8)) hx hb hK hP 3 0 rfl rfl (inF_in (by decide) c8) d_Mo_told_70 ?_
              refine lv_goto (tgt := 94) hx hb d_Mo_told_71 (by decide) ?_
              exact mend_i (u := (bdF σ true)) hx hb hr hlocks hS hP d_Mo_told_94 (⟨by rw [if_pos (by unfold okT; simp [c8, c17])]; unfold toldF mq; simp [ix, c34, c48, eq_true c62]; rfl, by unfold okT; rw [if_pos c8, c17]⟩)
          · refine lv_aload_n hx hb d_Mo_told_51 rfl (lv_at hl 0 rfl) ?_
            refine va_get (D := gD G) (ci := 7) (v := .ref (gad G 22)) (C := R_Mo) (T := F_Mo) (N := 29) hx hb (wl_Mo hT) (fun _ h9 => h9) hown hK hP 0 rfl rfl 1 (by decide) (k_571 hT) (fun _ h9 => h9) rfl d_Mo_told_52 ?_
            refine lv_iload_n hx hb d_Mo_told_55 rfl (lv_at hl 1 rfl) ?_
            refine va_iald (f := (mJ (bdF σ true) 7)) hx hb hK hP 2 0 rfl rfl (inF_in (by decide) c8) d_Mo_told_56 ?_
            refine lv_goto (tgt := 94) hx hb d_Mo_told_57 (by decide) ?_
            exact mend_i (u := (bdF σ true)) hx hb hr hlocks hS hP d_Mo_told_94 (⟨by rw [if_pos (by unfold okT; simp [c8, c17])]; unfold toldF mq; simp [ix, c34, eq_true c48]; rfl, by unfold okT; rw [if_pos c8, c17]⟩)
        · refine lv_aload_n hx hb d_Mo_told_37 rfl (lv_at hl 0 rfl) ?_
          refine va_get (D := gD G) (ci := 7) (v := .ref (gad G 21)) (C := R_Mo) (T := F_Mo) (N := 29) hx hb (wl_Mo hT) (fun _ h9 => h9) hown hK hP 0 rfl rfl 0 (by decide) (k_570 hT) (fun _ h9 => h9) rfl d_Mo_told_38 ?_
          refine lv_iload_n hx hb d_Mo_told_41 rfl (lv_at hl 1 rfl) ?_
          refine va_iald (f := (mJ (bdF σ true) 6)) hx hb hK hP 1 0 rfl rfl (inF_in (by decide) c8) d_Mo_told_42 ?_
          refine lv_goto (tgt := 94) hx hb d_Mo_told_43 (by decide) ?_
          exact mend_i (u := (bdF σ true)) hx hb hr hlocks hS hP d_Mo_told_94 (⟨by rw [if_pos (by unfold okT; simp [c8, c17])]; unfold toldF mq; simp [ix, eq_true c34]; rfl, by unfold okT; rw [if_pos c8, c17]⟩)
      · exact absurd rfl c28

set_option maxHeartbeats 4000000 in
set_option maxRecDepth 100000 in
theorem K_Mo_count {l : Launch} {G : GT} (g : MOK l G) (σ : MS) (w : Int32) : cx_M l y_Mo_count (.code y_Mo_count b_Mo_count 2 (some .int)) 1 22 (gA G) [.ref (gad G 20), .int w] (Mw G σ) (Mi G (fun v u => v = cnM σ w ∧ u = tI σ 11 0)) (Tn) := by
  refine cx_of (by decide +kernel) ?_
  intro p e s m below meth c s₁ B hml ht hc
  have hx := B.exec
  have hb := B.bytes
  have hr := B.returns
  have hown : s.vm.findClass R_Mo = some m.cls := findClass_of_methodNamed B.named
  have hlocks := B.notSynchronized
  have hT := g.tb hc
  have hK := g.k hc
  have hD := g.d (τ := σ)
  have hS : va_S (gA G) s.heap s.heap [] := va_S.rf
  have hP := hc.2.2
  have hl := lv_entry ([.ref (gad G 20), .int w]) (n := 2) (Nat.le_of_ble_eq_true rfl)
  rw [lg_entry_eq]
  generalize (lg_sl ([.ref (gad G 20), .int w]) ++ List.replicate (2 - (lg_sl ([.ref (gad G 20), .int w])).length) Slot.unset).toArray = ls at hl ⊢
  have hl : lv_has ls 2 [(0, .ref (gad G 20)), (1, .int w)] := hl
  refine lv_aload_n hx hb d_Mo_count_0 rfl (lv_at hl 0 rfl) ?_
  refine lv_iconst (v := 0) hx hb d_Mo_count_1 (by decide) ?_
  refine va_put (D := gD G) (ci := 7) (v := .int 0) (ty := .int) (C := R_Mo) (T := F_Mo) (N := 29) hx hb (wl_Mo hT) (fun _ h9 => h9) fy_Mo fy_Mo_ok fn_Mo hown hK hP hD hS 0 rfl rfl 26 (by decide) (k_596 hT) (fun _ h9 => h9) rfl (by decide +kernel) rfl rfl (Nat.le_of_ble_eq_true rfl) d_Mo_count_2 (fun H locs hP hD hS => ?_)
  have hP : va_P (gD G) classes (mw G (tI σ 11 0)) H := hP
  have hD : va_D (gA G) (mw G (tI σ 11 0)) := g.d
  refine lv_iload_n hx hb d_Mo_count_5 rfl (lv_at hl 1 rfl) ?_
  refine lv_bipush (v := 10) hx hb d_Mo_count_6 (by decide) ?_
  refine lv_bipush (v := 17) hx hb d_Mo_count_8 (by decide) ?_
  refine cx_S (n := 3) (As := [.int w, .int 10, .int 17]) (rest := []) ⟨hx, hb, hml, hown, fun _ h9 => nomatch h9⟩ (K_Mo_in g (tI σ 11 0) w 10 17 ) (k_666 hT) (k_667 hT) (k_668 hT) (k_9 hT) rfl (by decide +kernel) (hc.at g hS hP) ⟨by decide, by decide⟩ ⟨by decide, by decide⟩ hl.1 (Nat.le_of_ble_eq_true rfl) d_Mo_count_10 (fun _ h9 => h9) hS (fun _ _ _ _ _ _ _ h9 => h9.elim) (fun v t H locs ht9 hRt hz hk hS => ?_)
  obtain ⟨r, u, rfl, ⟨er, eu⟩, hP⟩ := hRt
  subst er
  rw [eu, ht9] at hP
  have hD : va_D (gA G) (mw G (tI σ 11 0)) := g.d
  refine W.eq (g2 := F0 m 13 ls [.int (b2i (inF w 10 17))]) rfl ?_
  refine lv_if_eq (tgt := 26) hx hb d_Mo_count_13 (by decide) (fun c13 => ?_) (fun c13 => ?_)
  · have c13 := b2i0 c13
    refine lv_iload_n hx hb d_Mo_count_26 rfl (lv_at hl 1 rfl) ?_
    refine lv_bipush (v := 20) hx hb d_Mo_count_27 (by decide) ?_
    refine lv_bipush (v := 23) hx hb d_Mo_count_29 (by decide) ?_
    refine cx_S (n := 3) (As := [.int w, .int 20, .int 23]) (rest := []) ⟨hx, hb, hml, hown, fun _ h9 => nomatch h9⟩ (K_Mo_in g (tI σ 11 0) w 20 23 ) (k_666 hT) (k_667 hT) (k_668 hT) (k_9 hT) rfl (by decide +kernel) (hc.at g hS hP) ⟨by decide, by decide⟩ ⟨by decide, by decide⟩ hl.1 (Nat.le_of_ble_eq_true rfl) d_Mo_count_31 (fun _ h9 => h9) hS (fun _ _ _ _ _ _ _ h9 => h9.elim) (fun v t H locs ht9 hRt hz hk hS => ?_)
    obtain ⟨r, u, rfl, ⟨er, eu⟩, hP⟩ := hRt
    subst er
    rw [eu, ht9] at hP
    have hD : va_D (gA G) (mw G (tI σ 11 0)) := g.d
    refine W.eq (g2 := F0 m 34 ls [.int (b2i (inF w 20 23))]) rfl ?_
    refine lv_if_eq (tgt := 47) hx hb d_Mo_count_34 (by decide) (fun c34 => ?_) (fun c34 => ?_)
    · have c34 := b2i0 c34
      refine lv_iload_n hx hb d_Mo_count_47 rfl (lv_at hl 1 rfl) ?_
      by_cases c48_0 : w = 0
      · refine lv_tableIn (tgt := 92) hx hb d_Mo_count_48 (by rw [c48_0]; decide) (by rw [c48_0]; decide) (by rw [c48_0]; rfl) (by decide) ?_
        refine lv_aload_n hx hb d_Mo_count_92 rfl (lv_at hl 0 rfl) ?_
        refine va_get (D := gD G) (ci := 7) (v := .int (mI σ 0)) (C := R_Mo) (T := F_Mo) (N := 29) hx hb (wl_Mo hT) (fun _ h9 => h9) hown hK hP 0 rfl rfl 17 (by decide) (k_587 hT) (fun _ h9 => h9) rfl d_Mo_count_93 ?_
        exact mend_i (u := (tI σ 11 0)) hx hb hr hlocks hS hP d_Mo_count_96 (⟨by unfold cnM; rw [if_neg (show ¬ inF w 10 17 = true by rw [c13]; decide), if_neg (show ¬ inF w 20 23 = true by rw [c34]; decide), if_pos c48_0]; try rfl, rfl⟩)
      by_cases c48_1 : w = 1
      · refine lv_tableIn (tgt := 97) hx hb d_Mo_count_48 (by rw [c48_1]; decide) (by rw [c48_1]; decide) (by rw [c48_1]; rfl) (by decide) ?_
        refine lv_aload_n hx hb d_Mo_count_97 rfl (lv_at hl 0 rfl) ?_
        refine va_get (D := gD G) (ci := 7) (v := .int (mI σ 1)) (C := R_Mo) (T := F_Mo) (N := 29) hx hb (wl_Mo hT) (fun _ h9 => h9) hown hK hP 0 rfl rfl 27 (by decide) (k_597 hT) (fun _ h9 => h9) rfl d_Mo_count_98 ?_
        refine W_tern (a := 1) (b := 0) (L := 108) (J := 109) hx hb d_Mo_count_101 (by decide) d_Mo_count_104 (by decide) d_Mo_count_105 (by decide) d_Mo_count_108 (by decide) rfl ?_
        exact mend_i (u := (tI σ 11 0)) hx hb hr hlocks hS hP d_Mo_count_109 (⟨by unfold cnM; rw [if_neg (show ¬ inF w 10 17 = true by rw [c13]; decide), if_neg (show ¬ inF w 20 23 = true by rw [c34]; decide), if_neg c48_0, if_pos c48_1]; try rfl, rfl⟩)
      by_cases c48_2 : w = 2
      · refine lv_tableIn (tgt := 110) hx hb d_Mo_count_48 (by rw [c48_2]; decide) (by rw [c48_2]; decide) (by rw [c48_2]; rfl) (by decide) ?_
        refine lv_aload_n hx hb d_Mo_count_110 rfl (lv_at hl 0 rfl) ?_
        refine va_get (D := gD G) (ci := 7) (v := .int (mI σ 2)) (C := R_Mo) (T := F_Mo) (N := 29) hx hb (wl_Mo hT) (fun _ h9 => h9) hown hK hP 0 rfl rfl 18 (by decide) (k_588 hT) (fun _ h9 => h9) rfl d_Mo_count_111 ?_
        exact mend_i (u := (tI σ 11 0)) hx hb hr hlocks hS hP d_Mo_count_114 (⟨by unfold cnM; rw [if_neg (show ¬ inF w 10 17 = true by rw [c13]; decide), if_neg (show ¬ inF w 20 23 = true by rw [c34]; decide), if_neg c48_0, if_neg c48_1, if_pos c48_2]; try rfl, rfl⟩)
      by_cases c48_3 : w = 3
      · refine lv_tableIn (tgt := 115) hx hb d_Mo_count_48 (by rw [c48_3]; decide) (by rw [c48_3]; decide) (by rw [c48_3]; rfl) (by decide) ?_
        refine lv_aload_n hx hb d_Mo_count_115 rfl (lv_at hl 0 rfl) ?_
        refine va_get (D := gD G) (ci := 7) (v := .int (mI σ 3)) (C := R_Mo) (T := F_Mo) (N := 29) hx hb (wl_Mo hT) (fun _ h9 => h9) hown hK hP 0 rfl rfl 19 (by decide) (k_589 hT) (fun _ h9 => h9) rfl d_Mo_count_116 ?_
        exact mend_i (u := (tI σ 11 0)) hx hb hr hlocks hS hP d_Mo_count_119 (⟨by unfold cnM; rw [if_neg (show ¬ inF w 10 17 = true by rw [c13]; decide), if_neg (show ¬ inF w 20 23 = true by rw [c34]; decide), if_neg c48_0, if_neg c48_1, if_neg c48_2, if_pos c48_3]; try rfl, rfl⟩)
      by_cases c48_4 : w = 4
      · refine lv_tableIn (tgt := 120) hx hb d_Mo_count_48 (by rw [c48_4]; decide) (by rw [c48_4]; decide) (by rw [c48_4]; rfl) (by decide) ?_
        refine lv_aload_n hx hb d_Mo_count_120 rfl (lv_at hl 0 rfl) ?_
        refine va_get (D := gD G) (ci := 7) (v := .int (mI σ 7)) (C := R_Mo) (T := F_Mo) (N := 29) hx hb (wl_Mo hT) (fun _ h9 => h9) hown hK hP 0 rfl rfl 20 (by decide) (k_590 hT) (fun _ h9 => h9) rfl d_Mo_count_121 ?_
        exact mend_i (u := (tI σ 11 0)) hx hb hr hlocks hS hP d_Mo_count_124 (⟨by unfold cnM; rw [if_neg (show ¬ inF w 10 17 = true by rw [c13]; decide), if_neg (show ¬ inF w 20 23 = true by rw [c34]; decide), if_neg c48_0, if_neg c48_1, if_neg c48_2, if_neg c48_3, if_pos c48_4]; try rfl, rfl⟩)
      by_cases c48_5 : w = 5
      · refine lv_tableIn (tgt := 125) hx hb d_Mo_count_48 (by rw [c48_5]; decide) (by rw [c48_5]; decide) (by rw [c48_5]; rfl) (by decide) ?_
        refine lv_aload_n hx hb d_Mo_count_125 rfl (lv_at hl 0 rfl) ?_
        refine va_get (D := gD G) (ci := 7) (v := .int (mI σ 8)) (C := R_Mo) (T := F_Mo) (N := 29) hx hb (wl_Mo hT) (fun _ h9 => h9) hown hK hP 0 rfl rfl 21 (by decide) (k_591 hT) (fun _ h9 => h9) rfl d_Mo_count_126 ?_
        exact mend_i (u := (tI σ 11 0)) hx hb hr hlocks hS hP d_Mo_count_129 (⟨by unfold cnM; rw [if_neg (show ¬ inF w 10 17 = true by rw [c13]; decide), if_neg (show ¬ inF w 20 23 = true by rw [c34]; decide), if_neg c48_0, if_neg c48_1, if_neg c48_2, if_neg c48_3, if_neg c48_4, if_pos c48_5]; try rfl, rfl⟩)
      by_cases c48_6 : w = 6
      · refine lv_tableIn (tgt := 130) hx hb d_Mo_count_48 (by rw [c48_6]; decide) (by rw [c48_6]; decide) (by rw [c48_6]; rfl) (by decide) ?_
        refine lv_aload_n hx hb d_Mo_count_130 rfl (lv_at hl 0 rfl) ?_
        refine va_get (D := gD G) (ci := 7) (v := .int (mI σ 10)) (C := R_Mo) (T := F_Mo) (N := 29) hx hb (wl_Mo hT) (fun _ h9 => h9) hown hK hP 0 rfl rfl 22 (by decide) (k_592 hT) (fun _ h9 => h9) rfl d_Mo_count_131 ?_
        exact mend_i (u := (tI σ 11 0)) hx hb hr hlocks hS hP d_Mo_count_134 (⟨by unfold cnM; rw [if_neg (show ¬ inF w 10 17 = true by rw [c13]; decide), if_neg (show ¬ inF w 20 23 = true by rw [c34]; decide), if_neg c48_0, if_neg c48_1, if_neg c48_2, if_neg c48_3, if_neg c48_4, if_neg c48_5, if_pos c48_6]; try rfl, rfl⟩)
      refine lv_tableOut (tgt := 135) hx hb d_Mo_count_48 (tsw_out (n := 7) (l := [0, 1, 2, 3, 4, 5, 6]) (by decide) (by decide) (by simp [c48_0, c48_1, c48_2, c48_3, c48_4, c48_5, c48_6])) (by decide) ?_
      refine lv_bipush (v := (-2)) hx hb d_Mo_count_135 (by decide) ?_
      exact mend_i (u := (tI σ 11 0)) hx hb hr hlocks hS hP d_Mo_count_137 (⟨by unfold cnM; rw [if_neg (show ¬ inF w 10 17 = true by rw [c13]; decide), if_neg (show ¬ inF w 20 23 = true by rw [c34]; decide), if_neg c48_0, if_neg c48_1, if_neg c48_2, if_neg c48_3, if_neg c48_4, if_neg c48_5, if_neg c48_6]; try rfl, rfl⟩)
    · have c34 := b2i1 c34
      refine lv_aload_n hx hb d_Mo_count_37 rfl (lv_at hl 0 rfl) ?_
      refine va_get (D := gD G) (ci := 7) (v := .ref (gad G 27)) (C := R_Mo) (T := F_Mo) (N := 29) hx hb (wl_Mo hT) (fun _ h9 => h9) hown hK hP 0 rfl rfl 6 (by decide) (k_576 hT) (fun _ h9 => h9) rfl d_Mo_count_38 ?_
      refine lv_iload_n hx hb d_Mo_count_41 rfl (lv_at hl 1 rfl) ?_
      refine lv_bipush (v := 12) hx hb d_Mo_count_42 (by decide) ?_
      refine lv_isub hx hb d_Mo_count_44 ?_
      refine va_iald (f := (mJ σ 1)) hx hb hK hP 7 0 rfl rfl (inF_sub2 c34) d_Mo_count_45 ?_
      exact mend_i (u := (tI σ 11 0)) hx hb hr hlocks hS hP d_Mo_count_46 (⟨by unfold cnM; rw [if_neg (show ¬ inF w 10 17 = true by rw [c13]; decide), if_pos c34]; try rfl, rfl⟩)
  · have c13 := b2i1 c13
    refine lv_aload_n hx hb d_Mo_count_16 rfl (lv_at hl 0 rfl) ?_
    refine va_get (D := gD G) (ci := 7) (v := .ref (gad G 27)) (C := R_Mo) (T := F_Mo) (N := 29) hx hb (wl_Mo hT) (fun _ h9 => h9) hown hK hP 0 rfl rfl 6 (by decide) (k_576 hT) (fun _ h9 => h9) rfl d_Mo_count_17 ?_
    refine lv_iload_n hx hb d_Mo_count_20 rfl (lv_at hl 1 rfl) ?_
    refine lv_bipush (v := 10) hx hb d_Mo_count_21 (by decide) ?_
    refine lv_isub hx hb d_Mo_count_23 ?_
    refine va_iald (f := (mJ σ 1)) hx hb hK hP 7 0 rfl rfl (inF_sub1 c13) d_Mo_count_24 ?_
    exact mend_i (u := (tI σ 11 0)) hx hb hr hlocks hS hP d_Mo_count_25 (⟨by unfold cnM; rw [if_pos c13]; try rfl, rfl⟩)

set_option maxHeartbeats 4000000 in
set_option maxRecDepth 100000 in
theorem K_Mo_code {l : Launch} {G : GT} (g : MOK l G) (σ : MS) (i o d a b n : Int32) : cx_M l y_Mo_code (.code y_Mo_code b_Mo_code 7 none) 1 22 (gA G) [.ref (gad G 20), .int i, .int o, .int d, .int a, .int b, .int n] (Mw G σ) (Mv G (fun u => u = (if okC i o d a b then cdM σ i o d a b n else bdF σ false))) (Tn) := by
  refine cx_of (by decide +kernel) ?_
  intro p e s m below meth c s₁ B hml ht hc
  have hx := B.exec
  have hb := B.bytes
  have hr := B.returns
  have hown : s.vm.findClass R_Mo = some m.cls := findClass_of_methodNamed B.named
  have hlocks := B.notSynchronized
  have hT := g.tb hc
  have hK := g.k hc
  have hD := g.d (τ := σ)
  have hS : va_S (gA G) s.heap s.heap [] := va_S.rf
  have hP := hc.2.2
  have hl := lv_entry ([.ref (gad G 20), .int i, .int o, .int d, .int a, .int b, .int n]) (n := 7) (Nat.le_of_ble_eq_true rfl)
  rw [lg_entry_eq]
  generalize (lg_sl ([.ref (gad G 20), .int i, .int o, .int d, .int a, .int b, .int n]) ++ List.replicate (7 - (lg_sl ([.ref (gad G 20), .int i, .int o, .int d, .int a, .int b, .int n])).length) Slot.unset).toArray = ls at hl ⊢
  have hl : lv_has ls 7 [(0, .ref (gad G 20)), (1, .int i), (2, .int o), (3, .int d), (4, .int a), (5, .int b), (6, .int n)] := hl
  refine lv_aload_n hx hb d_Mo_code_0 rfl (lv_at hl 0 rfl) ?_
  refine lv_iload_n hx hb d_Mo_code_1 rfl (lv_at hl 1 rfl) ?_
  refine lv_iconst (v := 0) hx hb d_Mo_code_2 (by decide) ?_
  refine lv_bipush (v := 23) hx hb d_Mo_code_3 (by decide) ?_
  refine cx_S (n := 3) (As := [.int i, .int 0, .int 23]) (rest := [.ref (gad G 20)]) ⟨hx, hb, hml, hown, fun _ h9 => nomatch h9⟩ (K_Mo_in g σ i 0 23 ) (k_666 hT) (k_667 hT) (k_668 hT) (k_9 hT) rfl (by decide +kernel) (hc.at g hS hP) ⟨by decide, by decide⟩ ⟨by decide, by decide⟩ hl.1 (Nat.le_of_ble_eq_true rfl) d_Mo_code_5 (fun _ h9 => h9) hS (fun _ _ _ _ _ _ _ h9 => h9.elim) (fun v t H locs ht9 hRt hz hk hS => ?_)
  obtain ⟨r, u, rfl, ⟨er, eu⟩, hP⟩ := hRt
  subst er
  rw [eu, ht9] at hP
  have hD : va_D (gA G) (mw G σ) := g.d
  refine W.eq (g2 := F0 m 8 ls [.int (b2i (inF i 0 23)), .ref (gad G 20)]) rfl ?_
  refine lv_if_eq (tgt := 57) hx hb d_Mo_code_8 (by decide) (fun c8 => ?_) (fun c8 => ?_)
  · have c8 := b2i0 c8
    refine lv_iconst (v := 0) hx hb d_Mo_code_57 (by decide) ?_
    refine cx_V (n := 1) (C := R_Mo) (As := [.int 0]) (rest := []) ⟨hx, hb, hml, hown, fun _ h9 => nomatch h9⟩ (K_Mo_bad g σ false) (k_669 hT) (k_671 hT) (ks_19 hT) (k_672 hT) (k_9 hT) rfl (by decide +kernel) (va_recv hK hP (ci := 7) (q0 := 0) rfl rfl) (hc.at g hS hP) ⟨by decide, by decide⟩ ⟨by decide, by decide⟩ hl.1 (Nat.le_of_ble_eq_true rfl) d_Mo_code_58 (fun _ h9 => h9) hS (fun _ _ _ _ _ _ _ h9 => h9.elim) (fun v t H locs ht9 hRt hz hk hS => ?_)
    obtain ⟨r, u, rfl, ⟨er, eu⟩, hP⟩ := hRt
    subst er
    rw [eu, ht9] at hP
    have hD : va_D (gA G) (mw G (bdF σ false)) := g.d
    refine W.eq (g2 := F0 m 61 ls [.int 1]) rfl ?_
    refine lv_if_eq (tgt := 65) hx hb d_Mo_code_61 (by decide) (fun c61 => ?_) (fun c61 => ?_)
    · exact absurd c61 (by decide)
    · exact mend_v (u := (bdF σ false)) hx hb hr hlocks hS hP d_Mo_code_64 (by rw [if_neg (show ¬ okC i o d a b = true by unfold okC; rw [if_neg (by rw [c8]; decide)]; decide)])
  · have c8 := b2i1 c8
    refine lv_iload_n hx hb d_Mo_code_11 rfl (lv_at hl 2 rfl) ?_
    refine lv_iconst (v := 0) hx hb d_Mo_code_12 (by decide) ?_
    refine lv_bipush (v := 19) hx hb d_Mo_code_13 (by decide) ?_
    refine cx_S (n := 3) (As := [.int o, .int 0, .int 19]) (rest := [.ref (gad G 20)]) ⟨hx, hb, hml, hown, fun _ h9 => nomatch h9⟩ (K_Mo_in g σ o 0 19 ) (k_666 hT) (k_667 hT) (k_668 hT) (k_9 hT) rfl (by decide +kernel) (hc.at g hS hP) ⟨by decide, by decide⟩ ⟨by decide, by decide⟩ hl.1 (Nat.le_of_ble_eq_true rfl) d_Mo_code_15 (fun _ h9 => h9) hS (fun _ _ _ _ _ _ _ h9 => h9.elim) (fun v t H locs ht9 hRt hz hk hS => ?_)
    obtain ⟨r, u, rfl, ⟨er, eu⟩, hP⟩ := hRt
    subst er
    rw [eu, ht9] at hP
    have hD : va_D (gA G) (mw G σ) := g.d
    refine W.eq (g2 := F0 m 18 ls [.int (b2i (inF o 0 19)), .ref (gad G 20)]) rfl ?_
    refine lv_if_eq (tgt := 57) hx hb d_Mo_code_18 (by decide) (fun c18 => ?_) (fun c18 => ?_)
    · have c18 := b2i0 c18
      refine lv_iconst (v := 0) hx hb d_Mo_code_57 (by decide) ?_
      refine cx_V (n := 1) (C := R_Mo) (As := [.int 0]) (rest := []) ⟨hx, hb, hml, hown, fun _ h9 => nomatch h9⟩ (K_Mo_bad g σ false) (k_669 hT) (k_671 hT) (ks_19 hT) (k_672 hT) (k_9 hT) rfl (by decide +kernel) (va_recv hK hP (ci := 7) (q0 := 0) rfl rfl) (hc.at g hS hP) ⟨by decide, by decide⟩ ⟨by decide, by decide⟩ hl.1 (Nat.le_of_ble_eq_true rfl) d_Mo_code_58 (fun _ h9 => h9) hS (fun _ _ _ _ _ _ _ h9 => h9.elim) (fun v t H locs ht9 hRt hz hk hS => ?_)
      obtain ⟨r, u, rfl, ⟨er, eu⟩, hP⟩ := hRt
      subst er
      rw [eu, ht9] at hP
      have hD : va_D (gA G) (mw G (bdF σ false)) := g.d
      refine W.eq (g2 := F0 m 61 ls [.int 1]) rfl ?_
      refine lv_if_eq (tgt := 65) hx hb d_Mo_code_61 (by decide) (fun c61 => ?_) (fun c61 => ?_)
      · exact absurd c61 (by decide)
      · exact mend_v (u := (bdF σ false)) hx hb hr hlocks hS hP d_Mo_code_64 (by rw [if_neg (show ¬ okC i o d a b = true by unfold okC; rw [if_pos c8, if_neg (by rw [c18]; decide)]; decide)])
    · have c18 := b2i1 c18
      refine lv_iload_n hx hb d_Mo_code_21 rfl (lv_at hl 3 rfl) ?_
      refine lv_iconst (v := 0) hx hb d_Mo_code_22 (by decide) ?_
      refine lv_bipush (v := 7) hx hb d_Mo_code_23 (by decide) ?_
      refine cx_S (n := 3) (As := [.int d, .int 0, .int 7]) (rest := [.ref (gad G 20)]) ⟨hx, hb, hml, hown, fun _ h9 => nomatch h9⟩ (K_Mo_in g σ d 0 7 ) (k_666 hT) (k_667 hT) (k_668 hT) (k_9 hT) rfl (by decide +kernel) (hc.at g hS hP) ⟨by decide, by decide⟩ ⟨by decide, by decide⟩ hl.1 (Nat.le_of_ble_eq_true rfl) d_Mo_code_25 (fun _ h9 => h9) hS (fun _ _ _ _ _ _ _ h9 => h9.elim) (fun v t H locs ht9 hRt hz hk hS => ?_)
      obtain ⟨r, u, rfl, ⟨er, eu⟩, hP⟩ := hRt
      subst er
      rw [eu, ht9] at hP
      have hD : va_D (gA G) (mw G σ) := g.d
      refine W.eq (g2 := F0 m 28 ls [.int (b2i (inF d 0 7)), .ref (gad G 20)]) rfl ?_
      refine lv_if_eq (tgt := 57) hx hb d_Mo_code_28 (by decide) (fun c28 => ?_) (fun c28 => ?_)
      · have c28 := b2i0 c28
        refine lv_iconst (v := 0) hx hb d_Mo_code_57 (by decide) ?_
        refine cx_V (n := 1) (C := R_Mo) (As := [.int 0]) (rest := []) ⟨hx, hb, hml, hown, fun _ h9 => nomatch h9⟩ (K_Mo_bad g σ false) (k_669 hT) (k_671 hT) (ks_19 hT) (k_672 hT) (k_9 hT) rfl (by decide +kernel) (va_recv hK hP (ci := 7) (q0 := 0) rfl rfl) (hc.at g hS hP) ⟨by decide, by decide⟩ ⟨by decide, by decide⟩ hl.1 (Nat.le_of_ble_eq_true rfl) d_Mo_code_58 (fun _ h9 => h9) hS (fun _ _ _ _ _ _ _ h9 => h9.elim) (fun v t H locs ht9 hRt hz hk hS => ?_)
        obtain ⟨r, u, rfl, ⟨er, eu⟩, hP⟩ := hRt
        subst er
        rw [eu, ht9] at hP
        have hD : va_D (gA G) (mw G (bdF σ false)) := g.d
        refine W.eq (g2 := F0 m 61 ls [.int 1]) rfl ?_
        refine lv_if_eq (tgt := 65) hx hb d_Mo_code_61 (by decide) (fun c61 => ?_) (fun c61 => ?_)
        · exact absurd c61 (by decide)
        · exact mend_v (u := (bdF σ false)) hx hb hr hlocks hS hP d_Mo_code_64 (by rw [if_neg (show ¬ okC i o d a b = true by unfold okC; rw [if_pos c8, if_pos c18, if_neg (by rw [c28]; decide)]; decide)])
      · have c28 := b2i1 c28
        refine lv_iload hx hb d_Mo_code_31 (lv_at hl 4 rfl) ?_
        refine lv_iconst (v := 0) hx hb d_Mo_code_33 (by decide) ?_
        refine lv_bipush (v := 7) hx hb d_Mo_code_34 (by decide) ?_
        refine cx_S (n := 3) (As := [.int a, .int 0, .int 7]) (rest := [.ref (gad G 20)]) ⟨hx, hb, hml, hown, fun _ h9 => nomatch h9⟩ (K_Mo_in g σ a 0 7 ) (k_666 hT) (k_667 hT) (k_668 hT) (k_9 hT) rfl (by decide +kernel) (hc.at g hS hP) ⟨by decide, by decide⟩ ⟨by decide, by decide⟩ hl.1 (Nat.le_of_ble_eq_true rfl) d_Mo_code_36 (fun _ h9 => h9) hS (fun _ _ _ _ _ _ _ h9 => h9.elim) (fun v t H locs ht9 hRt hz hk hS => ?_)
        obtain ⟨r, u, rfl, ⟨er, eu⟩, hP⟩ := hRt
        subst er
        rw [eu, ht9] at hP
        have hD : va_D (gA G) (mw G σ) := g.d
        refine W.eq (g2 := F0 m 39 ls [.int (b2i (inF a 0 7)), .ref (gad G 20)]) rfl ?_
        refine lv_if_eq (tgt := 57) hx hb d_Mo_code_39 (by decide) (fun c39 => ?_) (fun c39 => ?_)
        · have c39 := b2i0 c39
          refine lv_iconst (v := 0) hx hb d_Mo_code_57 (by decide) ?_
          refine cx_V (n := 1) (C := R_Mo) (As := [.int 0]) (rest := []) ⟨hx, hb, hml, hown, fun _ h9 => nomatch h9⟩ (K_Mo_bad g σ false) (k_669 hT) (k_671 hT) (ks_19 hT) (k_672 hT) (k_9 hT) rfl (by decide +kernel) (va_recv hK hP (ci := 7) (q0 := 0) rfl rfl) (hc.at g hS hP) ⟨by decide, by decide⟩ ⟨by decide, by decide⟩ hl.1 (Nat.le_of_ble_eq_true rfl) d_Mo_code_58 (fun _ h9 => h9) hS (fun _ _ _ _ _ _ _ h9 => h9.elim) (fun v t H locs ht9 hRt hz hk hS => ?_)
          obtain ⟨r, u, rfl, ⟨er, eu⟩, hP⟩ := hRt
          subst er
          rw [eu, ht9] at hP
          have hD : va_D (gA G) (mw G (bdF σ false)) := g.d
          refine W.eq (g2 := F0 m 61 ls [.int 1]) rfl ?_
          refine lv_if_eq (tgt := 65) hx hb d_Mo_code_61 (by decide) (fun c61 => ?_) (fun c61 => ?_)
          · exact absurd c61 (by decide)
          · exact mend_v (u := (bdF σ false)) hx hb hr hlocks hS hP d_Mo_code_64 (by rw [if_neg (show ¬ okC i o d a b = true by unfold okC; rw [if_pos c8, if_pos c18, if_pos c28, if_neg (by rw [c39]; decide)]; decide)])
        · have c39 := b2i1 c39
          refine lv_iload hx hb d_Mo_code_42 (lv_at hl 5 rfl) ?_
          refine lv_iconst (v := 0) hx hb d_Mo_code_44 (by decide) ?_
          refine lv_bipush (v := 7) hx hb d_Mo_code_45 (by decide) ?_
          refine cx_S (n := 3) (As := [.int b, .int 0, .int 7]) (rest := [.ref (gad G 20)]) ⟨hx, hb, hml, hown, fun _ h9 => nomatch h9⟩ (K_Mo_in g σ b 0 7 ) (k_666 hT) (k_667 hT) (k_668 hT) (k_9 hT) rfl (by decide +kernel) (hc.at g hS hP) ⟨by decide, by decide⟩ ⟨by decide, by decide⟩ hl.1 (Nat.le_of_ble_eq_true rfl) d_Mo_code_47 (fun _ h9 => h9) hS (fun _ _ _ _ _ _ _ h9 => h9.elim) (fun v t H locs ht9 hRt hz hk hS => ?_)
          obtain ⟨r, u, rfl, ⟨er, eu⟩, hP⟩ := hRt
          subst er
          rw [eu, ht9] at hP
          have hD : va_D (gA G) (mw G σ) := g.d
          refine W.eq (g2 := F0 m 50 ls [.int (b2i (inF b 0 7)), .ref (gad G 20)]) rfl ?_
          refine lv_if_eq (tgt := 57) hx hb d_Mo_code_50 (by decide) (fun c50 => ?_) (fun c50 => ?_)
          · have c50 := b2i0 c50
            refine lv_iconst (v := 0) hx hb d_Mo_code_57 (by decide) ?_
            refine cx_V (n := 1) (C := R_Mo) (As := [.int 0]) (rest := []) ⟨hx, hb, hml, hown, fun _ h9 => nomatch h9⟩ (K_Mo_bad g σ false) (k_669 hT) (k_671 hT) (ks_19 hT) (k_672 hT) (k_9 hT) rfl (by decide +kernel) (va_recv hK hP (ci := 7) (q0 := 0) rfl rfl) (hc.at g hS hP) ⟨by decide, by decide⟩ ⟨by decide, by decide⟩ hl.1 (Nat.le_of_ble_eq_true rfl) d_Mo_code_58 (fun _ h9 => h9) hS (fun _ _ _ _ _ _ _ h9 => h9.elim) (fun v t H locs ht9 hRt hz hk hS => ?_)
            obtain ⟨r, u, rfl, ⟨er, eu⟩, hP⟩ := hRt
            subst er
            rw [eu, ht9] at hP
            have hD : va_D (gA G) (mw G (bdF σ false)) := g.d
            refine W.eq (g2 := F0 m 61 ls [.int 1]) rfl ?_
            refine lv_if_eq (tgt := 65) hx hb d_Mo_code_61 (by decide) (fun c61 => ?_) (fun c61 => ?_)
            · exact absurd c61 (by decide)
            · exact mend_v (u := (bdF σ false)) hx hb hr hlocks hS hP d_Mo_code_64 (by rw [if_neg (show ¬ okC i o d a b = true by unfold okC; rw [if_pos c8, if_pos c18, if_pos c28, if_pos c39, c50]; decide)])
          · have c50 := b2i1 c50
            refine lv_iconst (v := 1) hx hb d_Mo_code_53 (by decide) ?_
            refine lv_goto (tgt := 58) hx hb d_Mo_code_54 (by decide) ?_
            refine cx_V (n := 1) (C := R_Mo) (As := [.int 1]) (rest := []) ⟨hx, hb, hml, hown, fun _ h9 => nomatch h9⟩ (K_Mo_bad g σ true) (k_669 hT) (k_671 hT) (ks_19 hT) (k_672 hT) (k_9 hT) rfl (by decide +kernel) (va_recv hK hP (ci := 7) (q0 := 0) rfl rfl) (hc.at g hS hP) ⟨by decide, by decide⟩ ⟨by decide, by decide⟩ hl.1 (Nat.le_of_ble_eq_true rfl) d_Mo_code_58 (fun _ h9 => h9) hS (fun _ _ _ _ _ _ _ h9 => h9.elim) (fun v t H locs ht9 hRt hz hk hS => ?_)
            obtain ⟨r, u, rfl, ⟨er, eu⟩, hP⟩ := hRt
            subst er
            rw [eu, ht9] at hP
            have hD : va_D (gA G) (mw G (bdF σ true)) := g.d
            refine W.eq (g2 := F0 m 61 ls [.int 0]) rfl ?_
            refine lv_if_eq (tgt := 65) hx hb d_Mo_code_61 (by decide) (fun c61 => ?_) (fun c61 => ?_)
            · refine lv_aload_n hx hb d_Mo_code_65 rfl (lv_at hl 0 rfl) ?_
              refine va_get (D := gD G) (ci := 7) (v := .ref (gad G 21)) (C := R_Mo) (T := F_Mo) (N := 29) hx hb (wl_Mo hT) (fun _ h9 => h9) hown hK hP 0 rfl rfl 0 (by decide) (k_570 hT) (fun _ h9 => h9) rfl d_Mo_code_66 ?_
              refine lv_iload_n hx hb d_Mo_code_69 rfl (lv_at hl 1 rfl) ?_
              refine lv_iload_n hx hb d_Mo_code_70 rfl (lv_at hl 2 rfl) ?_
              refine va_iast (f := (mJ (bdF σ true) 6)) hx hb hK hP hD hS 1 0 rfl rfl (inF_in (by decide) c8) d_Mo_code_71 (fun H locs hP hD hS => ?_)
              have hP : va_P (gD G) classes (mw G (tJ (bdF σ true) 6 (upd (mJ (bdF σ true) 6) i.toNatClampNeg o))) H := hP
              have hD : va_D (gA G) (mw G (tJ (bdF σ true) 6 (upd (mJ (bdF σ true) 6) i.toNatClampNeg o))) := g.d
              refine lv_aload_n hx hb d_Mo_code_72 rfl (lv_at hl 0 rfl) ?_
              refine va_get (D := gD G) (ci := 7) (v := .ref (gad G 22)) (C := R_Mo) (T := F_Mo) (N := 29) hx hb (wl_Mo hT) (fun _ h9 => h9) hown hK hP 0 rfl rfl 1 (by decide) (k_571 hT) (fun _ h9 => h9) rfl d_Mo_code_73 ?_
              refine lv_iload_n hx hb d_Mo_code_76 rfl (lv_at hl 1 rfl) ?_
              refine lv_iload_n hx hb d_Mo_code_77 rfl (lv_at hl 3 rfl) ?_
              refine va_iast (f := (mJ (bdF σ true) 7)) hx hb hK hP hD hS 2 0 rfl rfl (inF_in (by decide) c8) d_Mo_code_78 (fun H locs hP hD hS => ?_)
              have hP : va_P (gD G) classes (mw G (tJ (tJ (bdF σ true) 6 (upd (mJ (bdF σ true) 6) i.toNatClampNeg o)) 7 (upd (mJ (bdF σ true) 7) i.toNatClampNeg d))) H := hP
              have hD : va_D (gA G) (mw G (tJ (tJ (bdF σ true) 6 (upd (mJ (bdF σ true) 6) i.toNatClampNeg o)) 7 (upd (mJ (bdF σ true) 7) i.toNatClampNeg d))) := g.d
              refine lv_aload_n hx hb d_Mo_code_79 rfl (lv_at hl 0 rfl) ?_
              refine va_get (D := gD G) (ci := 7) (v := .ref (gad G 23)) (C := R_Mo) (T := F_Mo) (N := 29) hx hb (wl_Mo hT) (fun _ h9 => h9) hown hK hP 0 rfl rfl 2 (by decide) (k_572 hT) (fun _ h9 => h9) rfl d_Mo_code_80 ?_
              refine lv_iload_n hx hb d_Mo_code_83 rfl (lv_at hl 1 rfl) ?_
              refine lv_iload hx hb d_Mo_code_84 (lv_at hl 4 rfl) ?_
              refine va_iast (f := (mJ (bdF σ true) 8)) hx hb hK hP hD hS 3 0 rfl rfl (inF_in (by decide) c8) d_Mo_code_86 (fun H locs hP hD hS => ?_)
              have hP : va_P (gD G) classes (mw G (tJ (tJ (tJ (bdF σ true) 6 (upd (mJ (bdF σ true) 6) i.toNatClampNeg o)) 7 (upd (mJ (bdF σ true) 7) i.toNatClampNeg d)) 8 (upd (mJ (bdF σ true) 8) i.toNatClampNeg a))) H := hP
              have hD : va_D (gA G) (mw G (tJ (tJ (tJ (bdF σ true) 6 (upd (mJ (bdF σ true) 6) i.toNatClampNeg o)) 7 (upd (mJ (bdF σ true) 7) i.toNatClampNeg d)) 8 (upd (mJ (bdF σ true) 8) i.toNatClampNeg a))) := g.d
              refine lv_aload_n hx hb d_Mo_code_87 rfl (lv_at hl 0 rfl) ?_
              refine va_get (D := gD G) (ci := 7) (v := .ref (gad G 24)) (C := R_Mo) (T := F_Mo) (N := 29) hx hb (wl_Mo hT) (fun _ h9 => h9) hown hK hP 0 rfl rfl 3 (by decide) (k_573 hT) (fun _ h9 => h9) rfl d_Mo_code_88 ?_
              refine lv_iload_n hx hb d_Mo_code_91 rfl (lv_at hl 1 rfl) ?_
              refine lv_iload hx hb d_Mo_code_92 (lv_at hl 5 rfl) ?_
              refine va_iast (f := (mJ (bdF σ true) 9)) hx hb hK hP hD hS 4 0 rfl rfl (inF_in (by decide) c8) d_Mo_code_94 (fun H locs hP hD hS => ?_)
              have hP : va_P (gD G) classes (mw G (tJ (tJ (tJ (tJ (bdF σ true) 6 (upd (mJ (bdF σ true) 6) i.toNatClampNeg o)) 7 (upd (mJ (bdF σ true) 7) i.toNatClampNeg d)) 8 (upd (mJ (bdF σ true) 8) i.toNatClampNeg a)) 9 (upd (mJ (bdF σ true) 9) i.toNatClampNeg b))) H := hP
              have hD : va_D (gA G) (mw G (tJ (tJ (tJ (tJ (bdF σ true) 6 (upd (mJ (bdF σ true) 6) i.toNatClampNeg o)) 7 (upd (mJ (bdF σ true) 7) i.toNatClampNeg d)) 8 (upd (mJ (bdF σ true) 8) i.toNatClampNeg a)) 9 (upd (mJ (bdF σ true) 9) i.toNatClampNeg b))) := g.d
              refine lv_aload_n hx hb d_Mo_code_95 rfl (lv_at hl 0 rfl) ?_
              refine va_get (D := gD G) (ci := 7) (v := .ref (gad G 25)) (C := R_Mo) (T := F_Mo) (N := 29) hx hb (wl_Mo hT) (fun _ h9 => h9) hown hK hP 0 rfl rfl 4 (by decide) (k_574 hT) (fun _ h9 => h9) rfl d_Mo_code_96 ?_
              refine lv_iload_n hx hb d_Mo_code_99 rfl (lv_at hl 1 rfl) ?_
              refine lv_iload hx hb d_Mo_code_100 (lv_at hl 6 rfl) ?_
              refine va_iast (f := (mJ (bdF σ true) 10)) hx hb hK hP hD hS 5 0 rfl rfl (inF_in (by decide) c8) d_Mo_code_102 (fun H locs hP hD hS => ?_)
              have hP : va_P (gD G) classes (mw G (tJ (tJ (tJ (tJ (tJ (bdF σ true) 6 (upd (mJ (bdF σ true) 6) i.toNatClampNeg o)) 7 (upd (mJ (bdF σ true) 7) i.toNatClampNeg d)) 8 (upd (mJ (bdF σ true) 8) i.toNatClampNeg a)) 9 (upd (mJ (bdF σ true) 9) i.toNatClampNeg b)) 10 (upd (mJ (bdF σ true) 10) i.toNatClampNeg n))) H := hP
              have hD : va_D (gA G) (mw G (tJ (tJ (tJ (tJ (tJ (bdF σ true) 6 (upd (mJ (bdF σ true) 6) i.toNatClampNeg o)) 7 (upd (mJ (bdF σ true) 7) i.toNatClampNeg d)) 8 (upd (mJ (bdF σ true) 8) i.toNatClampNeg a)) 9 (upd (mJ (bdF σ true) 9) i.toNatClampNeg b)) 10 (upd (mJ (bdF σ true) 10) i.toNatClampNeg n))) := g.d
              exact mend_v (u := (tJ (tJ (tJ (tJ (tJ (bdF σ true) 6 (upd (mJ (bdF σ true) 6) i.toNatClampNeg o)) 7 (upd (mJ (bdF σ true) 7) i.toNatClampNeg d)) 8 (upd (mJ (bdF σ true) 8) i.toNatClampNeg a)) 9 (upd (mJ (bdF σ true) 9) i.toNatClampNeg b)) 10 (upd (mJ (bdF σ true) 10) i.toNatClampNeg n))) hx hb hr hlocks hS hP d_Mo_code_103 (by rw [if_pos (show okC i o d a b = true by unfold okC; rw [if_pos c8, if_pos c18, if_pos c28, if_pos c39, c50])]; rfl)
            · exact absurd rfl c61

set_option maxHeartbeats 4000000 in
set_option maxRecDepth 100000 in
theorem K_Mo_cell {l : Launch} {G : GT} (g : MOK l G) (σ : MS) (i : Int32) (v : UInt64) : cx_M l y_Mo_cell (.code y_Mo_cell b_Mo_cell 4 none) 1 22 (gA G) [.ref (gad G 20), .int i, .double v] (Mw G σ) (Mv G (fun u => u = (if okV i v then tF (bdF σ true) 0 (vf_upd (mF σ 0) (ix i) v) else bdF σ false))) (Tn) := by
  refine cx_of (by decide +kernel) ?_
  intro p e s m below meth c s₁ B hml ht hc
  have hx := B.exec
  have hb := B.bytes
  have hr := B.returns
  have hown : s.vm.findClass R_Mo = some m.cls := findClass_of_methodNamed B.named
  have hlocks := B.notSynchronized
  have hT := g.tb hc
  have hK := g.k hc
  have hD := g.d (τ := σ)
  have hS : va_S (gA G) s.heap s.heap [] := va_S.rf
  have hP := hc.2.2
  have hl := lv_entry ([.ref (gad G 20), .int i, .double v]) (n := 4) (Nat.le_of_ble_eq_true rfl)
  rw [lg_entry_eq]
  generalize (lg_sl ([.ref (gad G 20), .int i, .double v]) ++ List.replicate (4 - (lg_sl ([.ref (gad G 20), .int i, .double v])).length) Slot.unset).toArray = ls at hl ⊢
  have hl : lv_has ls 4 [(0, .ref (gad G 20)), (1, .int i), (2, .double v)] := hl
  refine lv_aload_n hx hb d_Mo_cell_0 rfl (lv_at hl 0 rfl) ?_
  refine lv_iload_n hx hb d_Mo_cell_1 rfl (lv_at hl 1 rfl) ?_
  refine lv_iconst (v := 0) hx hb d_Mo_cell_2 (by decide) ?_
  refine lv_bipush (v := 47) hx hb d_Mo_cell_3 (by decide) ?_
  refine cx_S (n := 3) (As := [.int i, .int 0, .int 47]) (rest := [.ref (gad G 20)]) ⟨hx, hb, hml, hown, fun _ h9 => nomatch h9⟩ (K_Mo_in g σ i 0 47 ) (k_666 hT) (k_667 hT) (k_668 hT) (k_9 hT) rfl (by decide +kernel) (hc.at g hS hP) ⟨by decide, by decide⟩ ⟨by decide, by decide⟩ hl.1 (Nat.le_of_ble_eq_true rfl) d_Mo_cell_5 (fun _ h9 => h9) hS (fun _ _ _ _ _ _ _ h9 => h9.elim) (fun v t H locs ht9 hRt hz hk hS => ?_)
  obtain ⟨r, u, rfl, ⟨er, eu⟩, hP⟩ := hRt
  subst er
  rw [eu, ht9] at hP
  have hD : va_D (gA G) (mw G σ) := g.d
  refine W.eq (g2 := F0 m 8 ls [.int (b2i (inF i 0 47)), .ref (gad G 20)]) rfl ?_
  refine lv_if_eq (tgt := 31) hx hb d_Mo_cell_8 (by decide) (fun c8 => ?_) (fun c8 => ?_)
  · have c8 := b2i0 c8
    refine lv_iconst (v := 0) hx hb d_Mo_cell_31 (by decide) ?_
    refine cx_V (n := 1) (C := R_Mo) (As := [.int 0]) (rest := []) ⟨hx, hb, hml, hown, fun _ h9 => nomatch h9⟩ (K_Mo_bad g σ false) (k_669 hT) (k_671 hT) (ks_19 hT) (k_672 hT) (k_9 hT) rfl (by decide +kernel) (va_recv hK hP (ci := 7) (q0 := 0) rfl rfl) (hc.at g hS hP) ⟨by decide, by decide⟩ ⟨by decide, by decide⟩ hl.1 (Nat.le_of_ble_eq_true rfl) d_Mo_cell_32 (fun _ h9 => h9) hS (fun _ _ _ _ _ _ _ h9 => h9.elim) (fun v t H locs ht9 hRt hz hk hS => ?_)
    obtain ⟨r, u, rfl, ⟨er, eu⟩, hP⟩ := hRt
    subst er
    rw [eu, ht9] at hP
    have hD : va_D (gA G) (mw G (bdF σ false)) := g.d
    refine W.eq (g2 := F0 m 35 ls [.int 1]) rfl ?_
    refine lv_if_eq (tgt := 39) hx hb d_Mo_cell_35 (by decide) (fun c35 => ?_) (fun c35 => ?_)
    · exact absurd c35 (by decide)
    · exact mend_v (u := (bdF σ false)) hx hb hr hlocks hS hP d_Mo_cell_38 (by rw [if_neg (show ¬ okV i v = true by unfold okV; rw [if_neg (by rw [c8]; decide)]; decide)])
  · have c8 := b2i1 c8
    refine lv_dload_n hx hb d_Mo_cell_11 rfl (lv_at hl 2 rfl) ?_
    refine lv_ldc2d (v := 13920209183539462144) hx hb hown (k_677 hT) d_Mo_cell_12 ?_
    refine lv_dcmp hx hb d_Mo_cell_15 ?_
    refine lv_if_lt (tgt := 31) hx hb d_Mo_cell_16 (by decide) (fun c16 => ?_) (fun c16 => ?_)
    · refine lv_iconst (v := 0) hx hb d_Mo_cell_31 (by decide) ?_
      refine cx_V (n := 1) (C := R_Mo) (As := [.int 0]) (rest := []) ⟨hx, hb, hml, hown, fun _ h9 => nomatch h9⟩ (K_Mo_bad g σ false) (k_669 hT) (k_671 hT) (ks_19 hT) (k_672 hT) (k_9 hT) rfl (by decide +kernel) (va_recv hK hP (ci := 7) (q0 := 0) rfl rfl) (hc.at g hS hP) ⟨by decide, by decide⟩ ⟨by decide, by decide⟩ hl.1 (Nat.le_of_ble_eq_true rfl) d_Mo_cell_32 (fun _ h9 => h9) hS (fun _ _ _ _ _ _ _ h9 => h9.elim) (fun v t H locs ht9 hRt hz hk hS => ?_)
      obtain ⟨r, u, rfl, ⟨er, eu⟩, hP⟩ := hRt
      subst er
      rw [eu, ht9] at hP
      have hD : va_D (gA G) (mw G (bdF σ false)) := g.d
      refine W.eq (g2 := F0 m 35 ls [.int 1]) rfl ?_
      refine lv_if_eq (tgt := 39) hx hb d_Mo_cell_35 (by decide) (fun c35 => ?_) (fun c35 => ?_)
      · exact absurd c35 (by decide)
      · exact mend_v (u := (bdF σ false)) hx hb hr hlocks hS hP d_Mo_cell_38 (by rw [if_neg (show ¬ okV i v = true by unfold okV badV; rw [if_pos c8, if_pos c16]; decide)])
    · refine lv_dload_n hx hb d_Mo_cell_19 rfl (lv_at hl 2 rfl) ?_
      refine lv_ldc2d (v := 4696837146684686336) hx hb hown (k_678 hT) d_Mo_cell_20 ?_
      refine lv_dcmp hx hb d_Mo_cell_23 ?_
      refine lv_if_gt (tgt := 31) hx hb d_Mo_cell_24 (by decide) (fun c24 => ?_) (fun c24 => ?_)
      · refine lv_iconst (v := 0) hx hb d_Mo_cell_31 (by decide) ?_
        refine cx_V (n := 1) (C := R_Mo) (As := [.int 0]) (rest := []) ⟨hx, hb, hml, hown, fun _ h9 => nomatch h9⟩ (K_Mo_bad g σ false) (k_669 hT) (k_671 hT) (ks_19 hT) (k_672 hT) (k_9 hT) rfl (by decide +kernel) (va_recv hK hP (ci := 7) (q0 := 0) rfl rfl) (hc.at g hS hP) ⟨by decide, by decide⟩ ⟨by decide, by decide⟩ hl.1 (Nat.le_of_ble_eq_true rfl) d_Mo_cell_32 (fun _ h9 => h9) hS (fun _ _ _ _ _ _ _ h9 => h9.elim) (fun v t H locs ht9 hRt hz hk hS => ?_)
        obtain ⟨r, u, rfl, ⟨er, eu⟩, hP⟩ := hRt
        subst er
        rw [eu, ht9] at hP
        have hD : va_D (gA G) (mw G (bdF σ false)) := g.d
        refine W.eq (g2 := F0 m 35 ls [.int 1]) rfl ?_
        refine lv_if_eq (tgt := 39) hx hb d_Mo_cell_35 (by decide) (fun c35 => ?_) (fun c35 => ?_)
        · exact absurd c35 (by decide)
        · exact mend_v (u := (bdF σ false)) hx hb hr hlocks hS hP d_Mo_cell_38 (by rw [if_neg (show ¬ okV i v = true by unfold okV badV; rw [if_pos c8, if_neg c16, if_pos c24]; decide)])
      · refine lv_iconst (v := 1) hx hb d_Mo_cell_27 (by decide) ?_
        refine lv_goto (tgt := 32) hx hb d_Mo_cell_28 (by decide) ?_
        refine cx_V (n := 1) (C := R_Mo) (As := [.int 1]) (rest := []) ⟨hx, hb, hml, hown, fun _ h9 => nomatch h9⟩ (K_Mo_bad g σ true) (k_669 hT) (k_671 hT) (ks_19 hT) (k_672 hT) (k_9 hT) rfl (by decide +kernel) (va_recv hK hP (ci := 7) (q0 := 0) rfl rfl) (hc.at g hS hP) ⟨by decide, by decide⟩ ⟨by decide, by decide⟩ hl.1 (Nat.le_of_ble_eq_true rfl) d_Mo_cell_32 (fun _ h9 => h9) hS (fun _ _ _ _ _ _ _ h9 => h9.elim) (fun v t H locs ht9 hRt hz hk hS => ?_)
        obtain ⟨r, u, rfl, ⟨er, eu⟩, hP⟩ := hRt
        subst er
        rw [eu, ht9] at hP
        have hD : va_D (gA G) (mw G (bdF σ true)) := g.d
        refine W.eq (g2 := F0 m 35 ls [.int 0]) rfl ?_
        refine lv_if_eq (tgt := 39) hx hb d_Mo_cell_35 (by decide) (fun c35 => ?_) (fun c35 => ?_)
        · refine lv_aload_n hx hb d_Mo_cell_39 rfl (lv_at hl 0 rfl) ?_
          refine va_get (D := gD G) (ci := 7) (v := .ref (gad G 33)) (C := R_Mo) (T := F_Mo) (N := 29) hx hb (wl_Mo hT) (fun _ h9 => h9) hown hK hP 0 rfl rfl 12 (by decide) (k_582 hT) (fun _ h9 => h9) rfl d_Mo_cell_40 ?_
          refine lv_iload_n hx hb d_Mo_cell_43 rfl (lv_at hl 1 rfl) ?_
          refine lv_dload_n hx hb d_Mo_cell_44 rfl (lv_at hl 2 rfl) ?_
          refine va_dast (f := (mF (bdF σ true) 0)) hx hb hK hP hD hS 13 1 rfl rfl (inF_in (by decide) c8) d_Mo_cell_45 (fun H locs hP hD hS => ?_)
          have hP : va_P (gD G) classes (mw G (tF (bdF σ true) 0 (vf_upd (mF (bdF σ true) 0) i.toNatClampNeg v))) H := hP
          have hD : va_D (gA G) (mw G (tF (bdF σ true) 0 (vf_upd (mF (bdF σ true) 0) i.toNatClampNeg v))) := g.d
          exact mend_v (u := (tF (bdF σ true) 0 (vf_upd (mF (bdF σ true) 0) i.toNatClampNeg v))) hx hb hr hlocks hS hP d_Mo_cell_46 (by rw [if_pos (show okV i v = true by unfold okV badV; rw [if_pos c8, if_neg c16, if_neg c24]; decide)]; rfl)
        · exact absurd rfl c35

