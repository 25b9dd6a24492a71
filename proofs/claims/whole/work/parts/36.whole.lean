/-! THE WHOLE: from the law's entry to its loop; the claim (what stands last is the skeleton's own, the launch's flags handed on) -/
theorem notc' {s : State} {x : Array Value} {a b : String} (h1 : (Cond.not (.castable a b)).before x s = true) : (Cond.not (.castable a b)).before #[] s = true := by
  have h2 := Cond.holds_not_iff.mp h1
  refine Cond.holds_not_iff.mpr ?_
  simp only [Cond.value] at h2 ⊢
  exact h2
section Apart
variable {A : Nat → Prop} {D : va_G} {cl : List vw_C} {X Y : va_W} {H : Heap}
theorem D_l (h : va_D A (X ++ Y)) : va_D A X :=
  have hl : ∀ {k : Nat} {z : Nat × va_E}, X[k]? = some z → (X ++ Y)[k]? = some z := fun {k z} hz => by
    rw [List.getElem?_append_left (List.getElem?_eq_some_iff.mp hz).1]; exact hz
  ⟨fun i j a b ha hb e => h.1 i j a b (hl ha) (hl hb) e, fun k z hz => h.2 k z (hl hz)⟩
theorem D_r (h : va_D A (X ++ Y)) : va_D A Y :=
  have hl : ∀ {k : Nat} {z : Nat × va_E}, Y[k]? = some z → (X ++ Y)[X.length + k]? = some z := fun {k z} hz => by
    rw [List.getElem?_append_right (Nat.le_add_right _ _), Nat.add_sub_cancel_left]; exact hz
  ⟨fun i j a b ha hb e => by have := h.1 _ _ a b (hl ha) (hl hb) e; omega, fun k z hz => h.2 _ z (hl hz)⟩
theorem D_lr (h : va_D A (X ++ Y)) {i j : Nat} {p q : Nat × va_E} (hp : X[i]? = some p) (hq : Y[j]? = some q) : p.1 ≠ q.1 := by
  intro e
  have hi := (List.getElem?_eq_some_iff.mp hp).1
  have h1 : (X ++ Y)[i]? = some p := by rw [List.getElem?_append_left hi]; exact hp
  have h2 : (X ++ Y)[X.length + j]? = some q := by rw [List.getElem?_append_right (Nat.le_add_right _ _), Nat.add_sub_cancel_left]; exact hq
  have := h.1 _ _ p q h1 h2 e
  omega
/-- what is none of X's cells, and lies below n, isn't X's to write -/
theorem not_A {n a : Nat} (ha : a < n) (h : ∀ (k : Nat) (p : Nat × va_E), X[k]? = some p → p.1 ≠ a) : ¬ va_A X n a := by
  intro z
  rcases z with ⟨k, e, z⟩ | z
  · exact h k (a, e) z rfl
  · omega
theorem A_ge {n m : Nat} (hD : va_D (fun q : Nat => m ≤ q) X) (hn : m ≤ n) : ∀ q, va_A X n q → m ≤ q := by
  intro q z
  rcases z with ⟨k, e, z⟩ | z
  · exact hD.2 k (q, e) z
  · omega
theorem ad_of {X' : va_W} (e : X.map (fun q => q.1) = X'.map (fun q => q.1)) {k : Nat} {q : Nat × va_E} (h : X[k]? = some q) : ∃ q', X'[k]? = some q' ∧ q'.1 = q.1 := by
  have h1 : (X.map (fun q => q.1))[k]? = some q.1 := by rw [List.getElem?_map, h]; rfl
  rw [e, List.getElem?_map] at h1
  cases h2 : X'[k]? with
  | none => rw [h2] at h1; cases h1
  | some q' => rw [h2] at h1; exact ⟨q', rfl, Option.some.inj h1⟩
theorem D_ad {X' : va_W} (e : X'.map (fun q => q.1) = X.map (fun q => q.1)) (h : va_D A X) : va_D A X' :=
  va_D.re h (fun k => by
    have h1 : (X'.map (fun q => q.1))[k]? = (X.map (fun q => q.1))[k]? := by rw [e]
    rw [List.getElem?_map, List.getElem?_map] at h1
    exact h1)
theorem cw_ad (G : GT) (σ σ' : CS) : (cw G σ).map (fun q => q.1) = (cw G σ').map (fun q => q.1) := by
  show (cw1 G σ ++ cwi G σ).map (fun q => q.1) = (cw1 G σ' ++ cwi G σ').map (fun q => q.1)
  rw [List.map_append, List.map_append]
  have e : (cwi G σ).map (fun q => q.1) = (cwi G σ').map (fun q => q.1) := by
    unfold cwi
    rw [List.map_map, List.map_map]
    rfl
  rw [e]
  rfl
theorem mw_ad (G : GT) (τ τ' : MS) : (mw G τ).map (fun q => q.1) = (mw G τ').map (fun q => q.1) := rfl
end Apart
/-- the worlds around the loop, once all is made -/
theorem law_E {l : Launch} {s : State} {D : va_G} {K : Nat → ClassId} {a ia t4 : Nat → Nat} {Lm : List Nat} {Am : Nat → Prop} {oa ob : Nat} {H : Heap} {f1 : Nat → Int64} {f2 : Nat → UInt64} (htr : l.stackTraces = false) (hT : Tb s) (hno : Tno s) (hK : va_K D classes (tyK K) s) (hsz : s.heap.size ≤ H.size)
    (z0 : va_Z "PipeComputer" "LATENCY" "[I" (.ref (t4 0)) (fun q : Nat => s.heap.size ≤ q) s s.heap ∧ va_T .int (t4 0) 20 (fun j => .int (latT j)) (fun q : Nat => s.heap.size ≤ q) s s.heap)
    (z1 : va_Z "PipeComputer" "WRITTEN_D" "[I" (.ref (t4 1)) (fun q : Nat => s.heap.size ≤ q) s s.heap ∧ va_T .int (t4 1) 20 (fun j => .int (wrdT j)) (fun q : Nat => s.heap.size ≤ q) s s.heap)
    (z2 : va_Z "PipeComputer" "READ_A" "[I" (.ref (t4 2)) (fun q : Nat => s.heap.size ≤ q) s s.heap ∧ va_T .int (t4 2) 20 (fun j => .int (rdaT j)) (fun q : Nat => s.heap.size ≤ q) s s.heap)
    (z3 : va_Z "PipeComputer" "READ_B" "[I" (.ref (t4 3)) (fun q : Nat => s.heap.size ≤ q) s s.heap ∧ va_T .int (t4 3) 20 (fun j => .int (rdbT j)) (fun q : Nat => s.heap.size ≤ q) s s.heap)
    (hw : ∀ (U : State) (args : Array Value), Ow s U → (Cond.isRef (.static Bundle.tN "UNASSIGNED_STACK" Bundle.steD)).before args U = true ∧ (Cond.isRef (.static Bundle.tN "SUPPRESSED_SENTINEL" Bundle.listD)).before args U = true ∧ (Cond.laysStatic Bundle.tN "UNASSIGNED_STACK" Bundle.steD).before args U = true ∧ (Cond.laysStatic Bundle.tN "SUPPRESSED_SENTINEL" Bundle.listD).before args U = true)
    {σ0 : CS} {τ0 : MS} {X Y : va_W} (eX : X = cw (mkC s Am a ia K D t4) σ0) (eY : Y = mw (mkM s Am Lm K D) τ0)
    (hP : va_P D classes (((X ++ Y) ++ [(oa, .inl (K 4, 1, .inr (.inl f1)))]) ++ [(ob, .inl (K 1, 1, aD f2))]) H) (hD : va_D (fun q : Nat => s.heap.size ≤ q) (((X ++ Y) ++ [(oa, .inl (K 4, 1, .inr (.inl f1)))]) ++ [(ob, .inl (K 1, 1, aD f2))])) :
    LawE l s (mkC s (va_A X H.size) a ia K D t4) (mkM s (va_A Y H.size) Lm K D) oa ob H.size ∧ ∀ (τ : MS) (k : Nat) (q : Nat × va_E), (mw (mkM s (va_A Y H.size) Lm K D) τ)[k]? = some q → q.1 ≠ ob := by
  have hPX : va_P D classes X H := app_l (app_l (app_l hP))
  have hPY : va_P D classes Y H := app_r (app_l (app_l hP))
  have hDX := D_l (D_l (D_l hD))
  have hDY := D_r (D_l (D_l hD))
  have ha0 : ∀ {x : Nat × va_E}, [x][0]? = some x := rfl
  have hoa := (app_r (app_l hP)) 0 _ ha0
  have hob := (app_r hP) 0 _ ha0
  have hoa := hoa.lt
  have hob := hob.lt
  have aoa : s.heap.size ≤ oa := (D_r (D_l hD)).2 0 _ ha0
  have aob : s.heap.size ≤ ob := (D_r hD).2 0 _ ha0
  have xc : ∀ (A : Nat → Prop) (σ : CS) (k : Nat) (q : Nat × va_E), (cw (mkC s A a ia K D t4) σ)[k]? = some q → ∃ q', X[k]? = some q' ∧ q'.1 = q.1 := by
    intro A σ k q h
    rw [eX]
    exact ad_of (cw_ad (mkC s Am a ia K D t4) σ σ0) h
  have xm : ∀ (A : Nat → Prop) (τ : MS) (k : Nat) (q : Nat × va_E), (mw (mkM s A Lm K D) τ)[k]? = some q → ∃ q', Y[k]? = some q' ∧ q'.1 = q.1 := by
    intro A τ k q h
    rw [eY]
    exact ad_of (mw_ad (mkM s Am Lm K D) τ τ0) h
  have XY : ∀ {i j : Nat} {p q : Nat × va_E}, X[i]? = some p → Y[j]? = some q → p.1 ≠ q.1 := fun h1 h2 => D_lr (D_l (D_l hD)) h1 h2
  have inl' : ∀ {Z W : va_W} {k : Nat} {p : Nat × va_E}, Z[k]? = some p → (Z ++ W)[k]? = some p := fun {Z W k p} hz => by
    rw [List.getElem?_append_left (List.getElem?_eq_some_iff.mp hz).1]; exact hz
  have inr' : ∀ {Z W : va_W} {k : Nat} {p : Nat × va_E}, W[k]? = some p → (Z ++ W)[Z.length + k]? = some p := fun {Z W k p} hz => by
    rw [List.getElem?_append_right (Nat.le_add_right _ _), Nat.add_sub_cancel_left]; exact hz
  have Xa : ∀ {k : Nat} {p : Nat × va_E}, X[k]? = some p → p.1 ≠ oa := fun h => D_lr (D_l hD) (inl' h) ha0
  have Ya : ∀ {k : Nat} {p : Nat × va_E}, Y[k]? = some p → p.1 ≠ oa := fun h => D_lr (D_l hD) (inr' h) ha0
  have Xb : ∀ {k : Nat} {p : Nat × va_E}, X[k]? = some p → p.1 ≠ ob := fun h => D_lr hD (inl' (inl' h)) ha0
  have Yb : ∀ {k : Nat} {p : Nat × va_E}, Y[k]? = some p → p.1 ≠ ob := fun h => D_lr hD (inl' (inr' h)) ha0
  have nab : oa ≠ ob := D_lr hD (inr' ha0) ha0
  have gX := A_ge hDX hsz
  have gY := A_ge hDY hsz
  refine ⟨⟨⟨htr, hT, hK, gX, fun σ => ?_, ⟨z0.1.narrow gX, z0.2.narrow gX⟩, ⟨z1.1.narrow gX, z1.2.narrow gX⟩, ⟨z2.1.narrow gX, z2.2.narrow gX⟩, ⟨z3.1.narrow gX, z3.2.narrow gX⟩, hw⟩, ⟨hT, hK, gY, fun τ => ?_⟩, hno, rfl, rfl, rfl, rfl, fun q h => Or.inr h, fun q h => Or.inr h, fun τ k q h => ?_, fun σ k q h => ?_,
    not_A hoa (fun k p h => Xa h), not_A hob (fun k p h => Xb h), not_A hoa (fun k p h => Ya h), not_A hob (fun k p h => Yb h), nab, aoa, aob⟩, fun τ k q h => ?_⟩
  · show va_D (va_A X H.size) (cw (mkC s (va_A X H.size) a ia K D t4) σ)
    refine D_ad (X := X) ?_ hDX.self
    rw [eX]
    exact cw_ad (mkC s Am a ia K D t4) σ σ0
  · show va_D (va_A Y H.size) (mw (mkM s (va_A Y H.size) Lm K D) τ)
    refine D_ad (X := Y) ?_ hDY.self
    rw [eY]
    exact mw_ad (mkM s Am Lm K D) τ τ0
  · obtain ⟨q', h1, h2⟩ := xm _ τ k q h
    rw [← h2]
    exact ⟨not_A (hPY k q' h1).lt (fun i p hp => XY hp h1), Ya h1⟩
  · obtain ⟨q', h1, h2⟩ := xc _ σ k q h
    rw [← h2]
    exact not_A (hPX k q' h1).lt (fun i p hp => (XY h1 hp).symm)
  · obtain ⟨q', h1, h2⟩ := xm _ τ k q h
    rw [← h2]
    exact Yb h1
set_option maxHeartbeats 4000000 in
set_option maxRecDepth 100000 in
/-- from the entry, for every script of at most 3584 ints, the law comes to its end with true -/
theorem whole_start {p : Program} {e : Env} {s : State} {m : MethodId} {below : List Frame} {meth : Method} {c : Code} (l : Launch) (htr : l.stackTraces = false) {b L : Nat} {xs : Nat → Int32} (hL : L ≤ 3584) (C0 : lw_At p s m meth c b L xs) : W p l e room_1 s m #[Value.ref b] below meth c s.heap [] 0 0 (lw_Z below #[Value.ref b] s) (entryFrame m ([Value.ref b] : List Value).toArray 9) := by
  obtain ⟨hx, hb, hr, hml, hown0, hts, hX, hbl, hlocks, hgv⟩ := id C0
  have hown : s.vm.findClass R_La = some m.cls := hown0
  have hT : Tb s := Tb.start hts
  have hAO : va_AO R_In s := va_AO.of (hts (.arrayOver (.object "PipeComputer$Instruction")) (by decide +kernel))
  have hs := flat_of_before _ hgv
  obtain ⟨D, K, hK⟩ := st_K hT hAO
  obtain ⟨t0, z0⟩ := st_tab (O := "PipeComputer") (n := "LATENCY") (d := "[I") (f := latT) (hts _ (by decide +kernel)) (k_1 hT) (hs _ (by decide +kernel)) (hs _ (by decide +kernel)) (fun j hj => hs _ (by revert j; decide +kernel))
  obtain ⟨t1, z1⟩ := st_tab (O := "PipeComputer") (n := "WRITTEN_D") (d := "[I") (f := wrdT) (hts _ (by decide +kernel)) (k_1 hT) (hs _ (by decide +kernel)) (hs _ (by decide +kernel)) (fun j hj => hs _ (by revert j; decide +kernel))
  obtain ⟨t2, z2⟩ := st_tab (O := "PipeComputer") (n := "READ_A") (d := "[I") (f := rdaT) (hts _ (by decide +kernel)) (k_1 hT) (hs _ (by decide +kernel)) (hs _ (by decide +kernel)) (fun j hj => hs _ (by revert j; decide +kernel))
  obtain ⟨t3, z3⟩ := st_tab (O := "PipeComputer") (n := "READ_B") (d := "[I") (f := rdbT) (hts _ (by decide +kernel)) (k_1 hT) (hs _ (by decide +kernel)) (hs _ (by decide +kernel)) (fun j hj => hs _ (by revert j; decide +kernel))
  have hw : ∀ (U : State) (args : Array Value), Ow s U → (Cond.isRef (.static Bundle.tN "UNASSIGNED_STACK" Bundle.steD)).before args U = true ∧ (Cond.isRef (.static Bundle.tN "SUPPRESSED_SENTINEL" Bundle.listD)).before args U = true ∧ (Cond.laysStatic Bundle.tN "UNASSIGNED_STACK" Bundle.steD).before args U = true ∧ (Cond.laysStatic Bundle.tN "SUPPRESSED_SENTINEL" Bundle.listD).before args U = true :=
    fun U args h => ⟨st_isRef h (hs _ (by decide +kernel)), st_isRef h (hs _ (by decide +kernel)), st_lays h (hts _ (by decide +kernel)), st_lays h (hts _ (by decide +kernel))⟩
  have hno : Tno s := ⟨notc' (hs _ (by decide +kernel)), notc' (hs _ (by decide +kernel)), notc' (hs _ (by decide +kernel)), notc' (hs _ (by decide +kernel)), notc' (hs _ (by decide +kernel)), notc' (hs _ (by decide +kernel))⟩
  have hA : ∀ q : Nat, s.heap.size ≤ q → (fun q : Nat => s.heap.size ≤ q) q := fun _ h => h
  have hS : va_S (fun q : Nat => s.heap.size ≤ q) s.heap s.heap [] := va_S.rf
  have hP : va_P D classes [] s.heap := fun k q h => by simp at h
  have hD : va_D (fun q : Nat => s.heap.size ≤ q) [] := ⟨fun i j p q h => by simp at h, fun k q h => by simp at h⟩
  have hl := lv_entry ([.ref b]) (n := 9) (Nat.le_of_ble_eq_true rfl)
  rw [lg_entry_eq]
  generalize (lg_sl ([.ref b]) ++ List.replicate (9 - (lg_sl ([.ref b])).length) Slot.unset).toArray = ls at hl ⊢
  have hl : lv_has ls 9 [(0, .ref b)] := hl
  refine va_new (ci := 6) (fs := [.null, .null, .null, .null, .null, .null, .null, .null, .null, .int 0, .int 0, .int 0]) (C := R_Pc) (T := F_Pc) (N := 12) hx hb (wl_Pc hT) (fun _ h9 => h9) fy_Pc fy_Pc_ok hown (k_18 hT) (k_19 hT) (k_1 hT) hK hP hD hS hA rfl (fun j hj => by match j, hj with | 0, _ => rfl | 1, _ => rfl | 2, _ => rfl | 3, _ => rfl | 4, _ => rfl | 5, _ => rfl | 6, _ => rfl | 7, _ => rfl | 8, _ => rfl | 9, _ => rfl | 10, _ => rfl | 11, _ => rfl | j + 12, h => exact absurd h (by omega)) (Nat.le_of_ble_eq_true rfl) (Nat.le_of_ble_eq_true rfl) d_La_law_0 (fun qc H hP hD hS => ?_)
  refine lv_dup hx hb d_La_law_3 rfl ?_
  refine ctI (D := D) (cl := classes) (A := fun q : Nat => s.heap.size ≤ q) (S := (Nat → Nat) × (Nat → Nat)) (ws := []) (x := .inr (6, [.null, .null, .null, .null, .null, .null, .null, .null, .null, .int 0, .int 0, .int 0])) (w1 := fun u => pcB u.1 K (pcf u.2 24) ++ pcI u.2 24) hx hb hml hown (M_Pc_init l D K (va_A [(qc, .inr (6, [.null, .null, .null, .null, .null, .null, .null, .null, .null, .int 0, .int 0, .int 0]))] H.size) qc) (k_20 hT) (k_21 hT) (k_22 hT) (k_1 hT) rfl (by decide +kernel) rfl rfl ⟨Nat.le_of_ble_eq_true rfl, Nat.le_of_ble_eq_true rfl⟩ hl.1 (Nat.le_of_ble_eq_true rfl) ⟨Nat.le_of_ble_eq_true rfl, Nat.le_of_ble_eq_true rfl⟩ d_La_law_4 (fun a U g mk z => ⟨z.1.call, z.2⟩) (fun U hU hW => ⟨⟨fun a ha => Or.inr (by rw [← hU]; exact ha), by rw [hU]; exact P_one (ws := []) hP, va_K.moved hW.alike hK, D_one (ws := []) hD, hT.warm hW⟩, va_AO.moved hW.alike hAO⟩) (fun u t h => ⟨h.1, h.2.1⟩) hP hD hS hA (fun u t H locs ht hB hP hD hS => ?_)
  obtain ⟨a, ia⟩ := u
  have e0 : a 0 = qc := hB.2.2
  have hP : va_P D classes (pcB a K (pcf ia 24) ++ pcI ia 24) H := hP
  have hD : va_D (fun q : Nat => s.heap.size ≤ q) (pcB a K (pcf ia 24) ++ pcI ia 24) := hD
  generalize eX : pcB a K (pcf ia 24) ++ pcI ia 24 = X at hP hD
  refine lv_astore_n (lv' := [(1, .ref qc), (0, .ref b)]) hx hb d_La_law_7 rfl hl (by decide) rfl (fun ls hl => ?_)
  refine va_new (ci := 7) (fs := [.null, .null, .null, .null, .null, .null, .null, .null, .null, .null, .null, .null, .null, .null, .null, .null, .null, .int 0, .int 0, .int 0, .int 0, .int 0, .int 0, .int 0, .int 0, .int 0, .int 0, .int 0, .int 0]) (C := R_Mo) (T := F_Mo) (N := 29) hx hb (wl_Mo hT) (fun _ h9 => h9) fy_Mo fy_Mo_ok hown (k_560 hT) (k_561 hT) (k_9 hT) hK hP hD hS hA rfl (fun j hj => by match j, hj with | 0, _ => rfl | 1, _ => rfl | 2, _ => rfl | 3, _ => rfl | 4, _ => rfl | 5, _ => rfl | 6, _ => rfl | 7, _ => rfl | 8, _ => rfl | 9, _ => rfl | 10, _ => rfl | 11, _ => rfl | 12, _ => rfl | 13, _ => rfl | 14, _ => rfl | 15, _ => rfl | 16, _ => rfl | 17, _ => rfl | 18, _ => rfl | 19, _ => rfl | 20, _ => rfl | 21, _ => rfl | 22, _ => rfl | 23, _ => rfl | 24, _ => rfl | 25, _ => rfl | 26, _ => rfl | 27, _ => rfl | 28, _ => rfl | j + 29, h => exact absurd h (by omega)) (Nat.le_of_ble_eq_true rfl) (Nat.le_of_ble_eq_true rfl) d_La_law_8 (fun qm H hP hD hS => ?_)
  refine lv_dup hx hb d_La_law_11 rfl ?_
  have hqm : s.heap.size ≤ qm := (D_r hD).2 0 _ rfl
  have hgm : ∀ q, va_A [(qm, .inr (7, [.null, .null, .null, .null, .null, .null, .null, .null, .null, .null, .null, .null, .null, .null, .null, .null, .null, .int 0, .int 0, .int 0, .int 0, .int 0, .int 0, .int 0, .int 0, .int 0, .int 0, .int 0, .int 0]))] H.size q → s.heap.size ≤ q := A_ge (D_r hD) hS.1
  refine ctI (D := D) (cl := classes) (A := fun q : Nat => s.heap.size ≤ q) (S := List Nat) (ws := X) (x := .inr (7, [.null, .null, .null, .null, .null, .null, .null, .null, .null, .null, .null, .null, .null, .null, .null, .null, .null, .int 0, .int 0, .int 0, .int 0, .int 0, .int 0, .int 0, .int 0, .int 0, .int 0, .int 0, .int 0])) (w1 := fun u => mw (mkM s (va_A [(qm, .inr (7, [.null, .null, .null, .null, .null, .null, .null, .null, .null, .null, .null, .null, .null, .null, .null, .null, .null, .int 0, .int 0, .int 0, .int 0, .int 0, .int 0, .int 0, .int 0, .int 0, .int 0, .int 0, .int 0]))] H.size) (qm :: u) K D) (rsM t0M)) hx hb hml hown (M_Mo_init l D K (va_A [(qm, .inr (7, [.null, .null, .null, .null, .null, .null, .null, .null, .null, .null, .null, .null, .null, .null, .null, .null, .null, .int 0, .int 0, .int 0, .int 0, .int 0, .int 0, .int 0, .int 0, .int 0, .int 0, .int 0, .int 0]))] H.size) qm s hT hK hgm) (k_562 hT) (k_563 hT) (k_564 hT) (k_9 hT) rfl (by decide +kernel) rfl rfl ⟨Nat.le_of_ble_eq_true rfl, Nat.le_of_ble_eq_true rfl⟩ hl.1 (Nat.le_of_ble_eq_true rfl) ⟨Nat.le_of_ble_eq_true rfl, Nat.le_of_ble_eq_true rfl⟩ d_La_law_12 (fun a U g mk z => ⟨z.1.call, z.2⟩) (fun U hU hW => ⟨⟨fun a ha => Or.inr (by rw [← hU]; exact ha), by rw [hU]; exact P_one (ws := X) hP, va_K.moved hW.alike hK, D_one (ws := X) hD, hT.warm hW⟩, (Ow.rf s).to (fun _ h => h) hS hU hW⟩) (fun u t h => ⟨h.2.1, h.2.2.2.2.2 _⟩) hP hD hS hA (fun u t H2 locs ht hB hP hD hS => ?_)
  generalize eA : va_A [(qm, .inr (7, [.null, .null, .null, .null, .null, .null, .null, .null, .null, .null, .null, .null, .null, .null, .null, .null, .null, .int 0, .int 0, .int 0, .int 0, .int 0, .int 0, .int 0, .int 0, .int 0, .int 0, .int 0, .int 0]))] H.size = Am at hP hD
  generalize eY : mw (mkM s Am (qm :: u) K D) (rsM t0M) = Y at hP hD
  refine lv_astore_n (lv' := [(2, .ref qm), (1, .ref qc), (0, .ref b)]) hx hb d_La_law_15 rfl hl (by decide) rfl (fun ls hl => ?_)
  refine lv_iconst (v := 1) hx hb d_La_law_16 (by decide) ?_
  refine nwA (atype := .long) (ty := .long) (N' := 1) (a0 := (1, .inr (.inl (fun _ => 0)))) hx hb (k_792 hT) rfl hK hP hD hS hA 4 rfl (fun _ => rfl) (by decide) rfl (by decide) (Nat.le_of_ble_eq_true rfl) (Nat.le_of_ble_eq_true rfl) d_La_law_17 (fun oa H3 hP hD hS => ?_)
  refine lv_astore_n (lv' := [(3, .ref oa), (2, .ref qm), (1, .ref qc), (0, .ref b)]) hx hb d_La_law_19 rfl hl (by decide) rfl (fun ls hl => ?_)
  refine lv_iconst (v := 1) hx hb d_La_law_20 (by decide) ?_
  refine nwA (atype := .double) (ty := .double) (N' := 1) (a0 := (1, aD (fun _ => 0))) hx hb (k_52 hT) rfl hK hP hD hS hA 1 rfl (fun _ => rfl) (by decide) rfl (by decide) (Nat.le_of_ble_eq_true rfl) (Nat.le_of_ble_eq_true rfl) d_La_law_21 (fun ob H4 hP hD hS => ?_)
  refine lv_astore (lv' := [(4, .ref ob), (3, .ref oa), (2, .ref qm), (1, .ref qc), (0, .ref b)]) hx hb d_La_law_23 hl (by decide) rfl (fun ls hl => ?_)
  refine lv_iconst (v := 0) hx hb d_La_law_25 (by decide) ?_
  refine lv_istore (lv' := [(5, .int 0), (4, .ref ob), (3, .ref oa), (2, .ref qm), (1, .ref qc), (0, .ref b)]) hx hb d_La_law_26 hl (by decide) rfl (fun ls hl => ?_)
  obtain ⟨E, eMb⟩ := law_E (l := l) (a := a) (ia := ia) (t4 := fun k => [t0, t1, t2, t3].getD k 0) (Lm := qm :: u) (Am := Am) htr hT hno hK hS.1 z0 z1 z2 z3 hw (σ0 := s0C) (τ0 := rsM t0M) (eX.symm.trans pc_last) eY.symm hP hD
  have h1 : va_P D classes X H4 := app_l (app_l (app_l hP))
  have h2 : va_P D classes Y H4 := app_r (app_l (app_l hP))
  rw [← eX] at h1
  rw [← eY] at h2
  have h3 := app_r (app_l hP)
  have h4 := app_r hP
  refine law_loop hL C0 E eMb 520 0 s0C (rsM t0M) H4 _ _ _ ls (fun _ => 0) (fun _ => 0) (by omega) (by omega) rel_0 h1 h2 h3 h4 hS (Nat.le_refl _) ⟨Nat.le_of_ble_eq_true rfl, Nat.le_of_ble_eq_true rfl⟩ ?_
  show lv_has ls 9 [(5, .int (nI 0)), (0, .ref b), (1, .ref (a 0)), (2, .ref qm), (3, .ref oa), (4, .ref ob)]
  rw [e0, nI_0]
  exact lv_sub hl [0, 5, 4, 3, 2, 1] rfl
