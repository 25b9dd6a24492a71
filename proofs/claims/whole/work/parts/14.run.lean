/-! CONTRACTS: run -/
section Mono
variable {p : Program} {l : Launch} {e : Env} {R : Room} {s : State} {m : MethodId} {args : Array Value} {below : List Frame} {meth : Method} {c : Code} {H : Heap} {locs : List Loc} {cells slots : Nat}
theorem cx_mono {A : Nat → Prop} {Rt Rt2 : Option Value → State → Prop} {Tx Tx2 : String → State → Prop} {g : JFrame} (h1 : ∀ v t, Rt v t → Rt2 v t) (h2 : ∀ E t, Tx E t → Tx2 E t) (k : W p l e R s m args below meth c H locs cells slots (cx_E below A Rt Tx args s) g) : W p l e R s m args below meth c H locs cells slots (cx_E below A Rt2 Tx2 args s) g := by
  intro T hT X
  obtain ⟨t, a1, o, b1, b2, b3, b4, L, b5, b6⟩ := k T hT X
  refine ⟨t, a1, o, b1, b2, b3, b4, L, b5, ?_⟩
  rcases b6 with ⟨v, q1, q2, q3⟩ | ⟨q, E, ce, q1, q2, q3⟩
  · exact Or.inl ⟨v, q1, h1 _ _ q2, q3⟩
  · exact Or.inr ⟨q, E, ce, q1, h2 _ _ q2, q3⟩
theorem Ri.mono {G : GT} {P P2 : Int32 → CS → Prop} (h : ∀ r u, P r u → P2 r u) : ∀ v t, Ri G P v t → Ri G P2 v t := fun _ _ ⟨r, u, q1, q2, q3⟩ => ⟨r, u, q1, h r u q2, q3⟩
theorem Rv.mono {G : GT} {P P2 : CS → Prop} (h : ∀ u, P u → P2 u) : ∀ v t, Rv G P v t → Rv G P2 v t := fun _ _ ⟨u, q1, q2, q3⟩ => ⟨u, q1, h u q2, q3⟩
theorem Tw.mono {G : GT} {P P2 : String → CS → Prop} (h : ∀ E u, P E u → P2 E u) : ∀ E t, Tw G P E t → Tw G P2 E t := fun E _ ⟨u, q2, q3⟩ => ⟨u, h E u q2, q3⟩
end Mono
def RunR (X : Nat × Int32 × CS) (r : Int32) (u : CS) : Prop := X.1 = 0 ∧ r = X.2.1 ∧ u = X.2.2
def RunT (X : Nat × Int32 × CS) (E : String) (u : CS) : Prop := ((E = "java/lang/IndexOutOfBoundsException" ∧ X.1 = 3) ∨ (E = "java/lang/ArithmeticException" ∧ X.1 = 4)) ∧ u = X.2.2
theorem run_t {f : Nat} {σ : CS} {k n : Int32} {E : String} {u : CS} (h1 : ¬ n ≤ k) (h2 : cI σ 1 = 0) (hq : ((E = "java/lang/IndexOutOfBoundsException" ∧ (doF σ).1 = 3) ∨ (E = "java/lang/ArithmeticException" ∧ (doF σ).1 = 4)) ∧ u = (doF σ).2) : RunT (ruF (f + 1) σ k n) E u := by
  have h0 : ¬ (doF σ).1 = 0 := by rcases hq.1 with ⟨_, h⟩ | ⟨_, h⟩ <;> rw [h] <;> decide
  have e : ruF (f + 1) σ k n = ((doF σ).1, k, (doF σ).2) := by simp [ruF, h1, h2, h0]
  rw [e]
  exact hq
set_option maxHeartbeats 4000000 in
set_option maxRecDepth 100000 in
theorem L_run {l : Launch} {G : GT} {p : Program} {e : Env} {s : State} {m : MethodId} {args : Array Value} {below : List Frame} {meth : Method} {c : Code} (C : Bx l G p s m meth c b_Pc_run 3 (some .int) R_Pc) {N : Nat} (hN : N ≤ 300) : ∀ (f j : Nat) (σ : CS) (H : Heap) (locs : List Loc) (ls : Array Slot), j + f = N → Wf σ → va_P (gD G) classes (cw G σ) H → va_S (gA G) s.heap H locs → lv_has ls 3 [(2, .int (nI j)), (0, .ref (gad G 0)), (1, .int (nI N))] →
    W p l e (cx_room 11 215) s m args below meth c H locs 0 0 (cx_E below (gA G) (Ri G (RunR (ruF f σ (nI j) (nI N)))) (Tw G (RunT (ruF f σ (nI j) (nI N)))) args s) (F0 m 37 ls []) := by
  obtain ⟨hx, hb, hml, hr, hown, hlocks, ht, g, σ0, hc⟩ := C
  have hT := g.tb hc
  have hK := g.k hc
  intro f
  induction f with
  | zero =>
    intro j σ H locs ls hj wf hP hS hl
    have hD := g.d (σ := σ)
    have hjN : j = N := by omega
    subst hjN
    refine lv_iload_n hx hb d_Pc_run_37 rfl (lv_at hl 0 rfl) ?_
    refine lv_iload_n hx hb d_Pc_run_38 rfl (lv_at hl 2 rfl) ?_
    refine lv_icmp_ge (tgt := 59) hx hb d_Pc_run_39 (by decide) (fun c39 => ?_) (fun c39 => ?_)
    · refine lv_iload_n hx hb d_Pc_run_59 rfl (lv_at hl 0 rfl) ?_
      exact end_i (u := σ) hx hb hr hlocks hS hP d_Pc_run_60 ⟨rfl, rfl, rfl⟩
    · exact absurd (nI_le (Nat.le_refl j) (by omega)) c39
  | succ f ih =>
    intro j σ H locs ls hj wf hP hS hl
    have hD := g.d (σ := σ)
    refine lv_iload_n hx hb d_Pc_run_37 rfl (lv_at hl 0 rfl) ?_
    refine lv_iload_n hx hb d_Pc_run_38 rfl (lv_at hl 2 rfl) ?_
    refine lv_icmp_ge (tgt := 59) hx hb d_Pc_run_39 (by decide) (fun c39 => ?_) (fun c39 => ?_)
    · refine lv_iload_n hx hb d_Pc_run_59 rfl (lv_at hl 0 rfl) ?_
      exact end_i (u := σ) hx hb hr hlocks hS hP d_Pc_run_60 (⟨by simp [ruF, c39], by simp [ruF, c39], by simp [ruF, c39]⟩)
    · refine lv_aload_n hx hb d_Pc_run_42 rfl (lv_at hl 1 rfl) ?_
      refine va_get (D := gD G) (ci := 6) (v := .int (cI σ 1)) (C := R_Pc) (T := F_Pc) (N := 12) hx hb (wl_Pc hT) (fun _ h9 => h9) hown hK hP 0 rfl rfl 10 (by decide) (k_189 hT) (fun _ h9 => h9) rfl d_Pc_run_43 ?_
      refine lv_if_ne (tgt := 59) hx hb d_Pc_run_46 (by decide) (fun c46 => ?_) (fun c46 => ?_)
      · refine lv_iload_n hx hb d_Pc_run_59 rfl (lv_at hl 0 rfl) ?_
        exact end_i (u := σ) hx hb hr hlocks hS hP d_Pc_run_60 (⟨by simp [ruF, c39, c46], by simp [ruF, c39, c46], by simp [ruF, c39, c46]⟩)
      · refine lv_aload_n hx hb d_Pc_run_49 rfl (lv_at hl 1 rfl) ?_
        refine cx_V (n := 0) (C := R_Pc) (As := []) (rest := []) ⟨hx, hb, hml, hown, fun _ h9 => nomatch h9⟩ (K_Pc_doOne g σ wf) (k_427 hT) (k_429 hT) (ks_7 hT) (k_430 hT) (k_1 hT) rfl (by decide +kernel) (va_recv hK hP (ci := 6) (q0 := 0) rfl rfl) (hc.at g hS hP) ⟨by decide, by decide⟩ ⟨by decide, by decide⟩ hl.1 (Nat.le_of_ble_eq_true rfl) d_Pc_run_50 (fun _ h9 => h9) hS (fun E ce q t H1 locs ht9 hTx hz hk hS hce hcv hcl => ?_) (fun v t H locs ht9 hRt hz hk hS => ?_)
        · obtain ⟨u, hq, hP⟩ := hTx; rw [ht9] at hP; exact cx_out ht hlocks hce hcv hcl hS (fun t9 h9 _ => Tw.i (u := u) (run_t c39 c46 hq) (by rw [h9]; exact hP)) (by decide) (by decide)
        · obtain ⟨u, rfl, ⟨hd1, eu⟩, hP⟩ := hRt
          rw [eu, ht9] at hP
          have hD : va_D (gA G) (cw G ((doF σ).2)) := g.d
          refine W.eq (g2 := F0 m 53 ls []) rfl ?_
          refine lv_iinc (v := ((nI j) + 1)) (lv' := [(2, .int ((nI j) + 1)), (0, .ref (gad G 0)), (1, .int (nI N))]) hx hb d_Pc_run_53 hl (k := 0) rfl rfl (by decide) rfl (fun ls hl => ?_)
          refine lv_goto (tgt := 37) hx hb d_Pc_run_56 (by decide) ?_
          have e9 : ruF (f + 1) σ (nI j) (nI N) = ruF f (doF σ).2 (nI (j + 1)) (nI N) := by rw [← nI_1]; simp [ruF, c39, c46, hd1]
          rw [e9]
          exact ih (j + 1) (doF σ).2 H locs ls (by omega) (doF_wf wf) hP hS (by rw [← nI_1]; exact lv_sub hl [0, 1, 2] rfl)
def badN (n : Int32) : Bool := if n < 1 then true else if n ≤ 300 then false else true
theorem run_n {n : Int32} (h1 : ¬ n < 1) (h2 : n ≤ 300) : ∃ N : Nat, N ≤ 300 ∧ n = nI N := by
  rw [Int32.lt_iff_toInt_lt, show (1 : Int32).toInt = 1 by decide] at h1
  rw [Int32.le_iff_toInt_le, show (300 : Int32).toInt = 300 by decide] at h2
  exact ⟨n.toInt.toNat, by omega, Int32.toInt_inj.mp (by rw [nI_toInt (by omega)]; omega)⟩
set_option maxRecDepth 100000 in
theorem at_ISE_107_in : ∀ w ∈ Bundle.ownAtoms0 R_Pc 107 "java/lang/IllegalStateException" ["java/lang/RuntimeException", "java/lang/Exception"], (w = .isRef (.static Bundle.tN "UNASSIGNED_STACK" Bundle.steD) ∨ w = .isRef (.static Bundle.tN "SUPPRESSED_SENTINEL" Bundle.listD) ∨ w = .laysStatic Bundle.tN "UNASSIGNED_STACK" Bundle.steD ∨ w = .laysStatic Bundle.tN "SUPPRESSED_SENTINEL" Bundle.listD) ∨ (w ∈ lw_tbl ∧ tb_ok w = true) := by decide +kernel
theorem at_ISE_107 {l : Launch} {G : GT} (g : GOK l G) {σ : CS} {s : State} {args : Array Value} {H : Heap} {locs : List Loc} (hc : Cw G σ s) (hS : va_S (gA G) s.heap H locs) : ∀ U : State, U.heap = H → s.WarmedH U.vm → ∀ w ∈ Bundle.ownAtoms0 R_Pc 107 "java/lang/IllegalStateException" ["java/lang/RuntimeException", "java/lang/Exception"], w.before args U = true := by
  intro U hU hW w hw
  have O := hc.1.to g.2.2.2.1 hS hU hW
  obtain ⟨h1, h2, h3, h4⟩ := g.2.2.2.2.2.2.2.2.2 U args O
  rcases at_ISE_107_in w hw with (rfl | rfl | rfl | rfl) | ⟨q1, q2⟩
  · exact h1
  · exact h2
  · exact h3
  · exact h4
  · exact (g.2.1.warm O.1).w q1 q2
set_option maxHeartbeats 4000000 in
set_option maxRecDepth 100000 in
theorem K_Pc_run {l : Launch} {G : GT} (g : GOK l G) (σ : CS) (n : Int32) (wf : Wf σ) : cx_M l y_Pc_run (.code y_Pc_run b_Pc_run 3 (some .int)) 11 215 (gA G) [.ref (gad G 0), .int n] (Cw G σ) (Ri G (fun r u => badN n = false ∧ cI σ 1 = 0 ∧ RunR (ruF (ix n) σ 0 n) r u)) (Tw G (fun E u => (E = "java/lang/IllegalArgumentException" ∧ badN n = true ∧ u = σ) ∨ (E = "java/lang/IllegalStateException" ∧ badN n = false ∧ ¬ cI σ 1 = 0 ∧ u = σ) ∨ (badN n = false ∧ cI σ 1 = 0 ∧ RunT (ruF (ix n) σ 0 n) E u))) := by
  refine cx_of (by decide +kernel) ?_
  intro p e s m below meth c s₁ B hml ht hc
  have hx := B.exec
  have hb := B.bytes
  have hr := B.returns
  have hown : s.vm.findClass R_Pc = some m.cls := findClass_of_methodNamed B.named
  have hlocks := B.notSynchronized
  have hT := g.tb hc
  have hK := g.k hc
  have hD := g.d (σ := σ)
  have hS : va_S (gA G) s.heap s.heap [] := va_S.rf
  have hP := hc.2.2
  have hl := lv_entry ([.ref (gad G 0), .int n]) (n := 3) (Nat.le_of_ble_eq_true rfl)
  rw [lg_entry_eq]
  generalize (lg_sl ([.ref (gad G 0), .int n]) ++ List.replicate (3 - (lg_sl ([.ref (gad G 0), .int n])).length) Slot.unset).toArray = ls at hl ⊢
  have hl : lv_has ls 3 [(0, .ref (gad G 0)), (1, .int n)] := hl
  refine lv_iload_n hx hb d_Pc_run_0 rfl (lv_at hl 1 rfl) ?_
  refine lv_iconst (v := 1) hx hb d_Pc_run_1 (by decide) ?_
  refine lv_icmp_lt (tgt := 12) hx hb d_Pc_run_2 (by decide) (fun c2 => ?_) (fun c2 => ?_)
  · exact cx_throw (own := R_Pc) (cls := "java/lang/IllegalArgumentException") (names := ["java/lang/RuntimeException", "java/lang/Exception"]) (ik := 85) (ic := 87) hx hb g.1 hown (by decide +kernel) (by decide +kernel) (fun U hU hW => ⟨k_297 ((g.tb hc).warm hW), k_13 ((g.tb hc).warm hW), at_IAE_87 g hc hS U hU hW⟩) hS hc.2.1 (by rw [hml]; exact hl.1) d_Pc_run_12 d_Pc_run_15 d_Pc_run_16 d_Pc_run_19 ht hlocks (by decide) (Nat.le_of_ble_eq_true rfl) (by decide) (by decide) (fun t9 _ _ hk => Tw.i (u := σ) (Or.inl ⟨rfl, by simp [badN, c2], rfl⟩) (hP.keep hk))
  · refine lv_iload_n hx hb d_Pc_run_5 rfl (lv_at hl 1 rfl) ?_
    refine lv_sipush (v := 300) hx hb d_Pc_run_6 (by decide) ?_
    refine lv_icmp_le (tgt := 20) hx hb d_Pc_run_9 (by decide) (fun c9 => ?_) (fun c9 => ?_)
    · refine lv_aload_n hx hb d_Pc_run_20 rfl (lv_at hl 0 rfl) ?_
      refine va_get (D := gD G) (ci := 6) (v := .int (cI σ 1)) (C := R_Pc) (T := F_Pc) (N := 12) hx hb (wl_Pc hT) (fun _ h9 => h9) hown hK hP 0 rfl rfl 10 (by decide) (k_189 hT) (fun _ h9 => h9) rfl d_Pc_run_21 ?_
      refine lv_if_eq (tgt := 35) hx hb d_Pc_run_24 (by decide) (fun c24 => ?_) (fun c24 => ?_)
      · refine lv_iconst (v := 0) hx hb d_Pc_run_35 (by decide) ?_
        refine lv_istore_n (lv' := [(2, .int 0), (0, .ref (gad G 0)), (1, .int n)]) hx hb d_Pc_run_36 rfl hl (by decide) rfl (fun ls hl => ?_)
        obtain ⟨N, hN, rfl⟩ : ∃ N : Nat, N ≤ 300 ∧ n = nI N := run_n c2 c9
        have hN2 : ix (nI N) = N := nI_clamp (by omega)
        refine cx_mono (Ri.mono (P := RunR (ruF N σ (nI 0) (nI N))) (fun r u hR => ?_)) (Tw.mono (P := RunT (ruF N σ (nI 0) (nI N))) (fun E u hR => ?_)) (L_run ⟨hx, hb, hml, hr, hown, hlocks, ht, g, σ, hc⟩ hN N 0 σ _ _ ls (by omega) wf hP hS (lv_sub hl [0, 1, 2] rfl))
        · rw [nI_0] at hR; rw [hN2]; exact ⟨by simp [badN, c2, c9], c24, hR⟩
        · rw [nI_0] at hR; rw [hN2]; exact Or.inr (Or.inr ⟨by simp [badN, c2, c9], c24, hR⟩)
      · exact cx_throw (own := R_Pc) (cls := "java/lang/IllegalStateException") (names := ["java/lang/RuntimeException", "java/lang/Exception"]) (ik := 105) (ic := 107) hx hb g.1 hown (by decide +kernel) (by decide +kernel) (fun U hU hW => ⟨k_412 ((g.tb hc).warm hW), k_14 ((g.tb hc).warm hW), at_ISE_107 g hc hS U hU hW⟩) hS hc.2.1 (by rw [hml]; exact hl.1) d_Pc_run_27 d_Pc_run_30 d_Pc_run_31 d_Pc_run_34 ht hlocks (by decide) (Nat.le_of_ble_eq_true rfl) (by decide) (by decide) (fun t9 _ _ hk => Tw.i (u := σ) (Or.inr (Or.inl ⟨rfl, by simp [badN, c2, c9], c24, rfl⟩)) (hP.keep hk))
    · exact cx_throw (own := R_Pc) (cls := "java/lang/IllegalArgumentException") (names := ["java/lang/RuntimeException", "java/lang/Exception"]) (ik := 85) (ic := 87) hx hb g.1 hown (by decide +kernel) (by decide +kernel) (fun U hU hW => ⟨k_297 ((g.tb hc).warm hW), k_13 ((g.tb hc).warm hW), at_IAE_87 g hc hS U hU hW⟩) hS hc.2.1 (by rw [hml]; exact hl.1) d_Pc_run_12 d_Pc_run_15 d_Pc_run_16 d_Pc_run_19 ht hlocks (by decide) (Nat.le_of_ble_eq_true rfl) (by decide) (by decide) (fun t9 _ _ hk => Tw.i (u := σ) (Or.inl ⟨rfl, by simp [badN, c2, c9], rfl⟩) (hP.keep hk))

