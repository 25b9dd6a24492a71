/-! CONTRACTS OF THE REFERENCE: reset, start, run -/
section MReset
theorem tJ_tJ (τ : MS) (k : Nat) (f g : Nat → Int32) : tJ (tJ τ k f) k g = tJ τ k g := by
  have : va_up (va_up τ.2.1 k f) k g = va_up τ.2.1 k g := by
    funext j
    unfold va_up
    split <;> rfl
  unfold tJ
  dsimp only
  rw [this]
theorem tJ_comm (τ : MS) {k j : Nat} (f g : Nat → Int32) (h : k ≠ j) : tJ (tJ τ k f) j g = tJ (tJ τ j g) k f := by
  have : va_up (va_up τ.2.1 k f) j g = va_up (va_up τ.2.1 j g) k f := by
    funext x
    unfold va_up
    by_cases h1 : x = j
    · subst h1; simp [Ne.symm h]
    · simp [h1]
  unfold tJ
  dsimp only
  rw [this]
theorem rs1 (σ : MS) {j : Nat} (hj : j < 12) : tJ σ 1 (fI (mJ σ 1) (j + 1) 0) = tJ (tJ σ 1 (fI (mJ σ 1) j 0)) 1 (upd (mJ (tJ σ 1 (fI (mJ σ 1) j 0)) 1) (nI j).toNatClampNeg 0) := by
  rw [← fI_up _ j 0 (by omega), tJ_tJ]
  rfl
def r2F (σ : MS) (j : Nat) : MS := tJ (tJ σ 0 (fI (mJ σ 0) j 0)) 5 (fI (mJ σ 5) j 1)
theorem rs2 (σ : MS) {j : Nat} (hj : j < 8) : r2F σ (j + 1) = tJ (tJ (r2F σ j) 0 (upd (mJ (r2F σ j) 0) (nI j).toNatClampNeg 0)) 5 (upd (mJ (r2F σ j) 5) (nI j).toNatClampNeg 1) := by
  have e0 : mJ (r2F σ j) 0 = fI (mJ σ 0) j 0 := rfl
  have e5 : mJ (r2F σ j) 5 = fI (mJ σ 5) j 1 := rfl
  rw [e0, e5, fI_up _ j 0 (by omega), fI_up _ j 1 (by omega)]
  unfold r2F
  rw [tJ_comm (tJ σ 0 (fI (mJ σ 0) j 0)) (k := 5) (j := 0) _ _ (by decide), tJ_tJ, tJ_tJ]
def r3F (σ : MS) (j : Nat) : MS := tJ (tJ (tJ (tF σ 1 (fD (mF σ 1) j FP.dconst0)) 3 (fI (mJ σ 3) j (-1))) 4 (fI (mJ σ 4) j 0)) 2 (fI (mJ σ 2) ((j + 1) / 2) (-1))
theorem d2in {j : Nat} (h : j < 4) : vp_in (nI j / 2) 2 := by
  have : ∀ j, j < 4 → vp_in (nI j / 2) 2 := by unfold vp_in; decide
  exact this j h
theorem d2c {j : Nat} (h : j < 4) : (nI j / 2).toNatClampNeg = j / 2 := by
  have : ∀ j, j < 4 → (nI j / 2).toNatClampNeg = j / 2 := by decide
  exact this j h
theorem rs3 (σ : MS) {j : Nat} (hj : j < 4) : r3F σ (j + 1) = tJ (tJ (tJ (tF (r3F σ j) 1 (vf_upd (mF (r3F σ j) 1) (nI j).toNatClampNeg FP.dconst0)) 3 (upd (mJ (r3F σ j) 3) (nI j).toNatClampNeg (-1))) 4 (upd (mJ (r3F σ j) 4) (nI j).toNatClampNeg 0)) 2 (upd (mJ (r3F σ j) 2) (nI j / 2).toNatClampNeg (-1)) := by
  have e1 : mF (r3F σ j) 1 = fD (mF σ 1) j FP.dconst0 := rfl
  have e3 : mJ (r3F σ j) 3 = fI (mJ σ 3) j (-1) := rfl
  have e4 : mJ (r3F σ j) 4 = fI (mJ σ 4) j 0 := rfl
  have e2 : mJ (r3F σ j) 2 = fI (mJ σ 2) ((j + 1) / 2) (-1) := rfl
  have u2 : upd (fI (mJ σ 2) ((j + 1) / 2) (-1)) (j / 2) (-1) = fI (mJ σ 2) ((j + 1 + 1) / 2) (-1) := by
    funext i
    unfold upd fI
    by_cases h : i = j / 2
    · rw [if_pos h, if_pos (by omega)]
    · rw [if_neg h]
      by_cases h2 : i < (j + 1) / 2
      · rw [if_pos h2, if_pos (by omega)]
      · rw [if_neg h2, if_neg (by omega)]
  rw [e1, e2, e3, e4, fI_up _ j (-1) (by omega), fI_up _ j 0 (by omega), fD_up _ j _ (by omega), d2c hj, u2]
  refine MS_ext (fun k => rfl) (fun k => ?_) (funext fun k => ?_)
  · unfold r3F
    simp only [mJ_tJ, mJ_tF]
    by_cases h2 : k = 2
    · simp [h2]
    · by_cases h4 : k = 4
      · simp [h4]
      · by_cases h3 : k = 3
        · simp [h3]
        · simp [h2, h3, h4]
  · unfold r3F
    simp only [mF_tJ, mF_tF]
    by_cases h1 : k = 1
    · simp [h1]
    · simp [h1]
def rsM (σ : MS) : MS := tI (tI (tI (tI (tI (tI (tI (tI (tI (r3F (r2F (tJ σ 1 (fI (mJ σ 1) 12 0)) 8) 4) 9 0) 5 0) 4 0) 10 0) 8 0) 7 0) 2 0) 3 (-1)) 6 0
theorem rs1_0 (σ : MS) : tJ σ 1 (fI (mJ σ 1) 0 0) = σ := by rw [fI_0]; exact tJ_self _ _
theorem rs2_0 (σ : MS) : r2F σ 0 = σ := by unfold r2F; rw [fI_0, fI_0, tJ_self]; exact tJ_self _ _
theorem tF_self (τ : MS) (k : Nat) : tF τ k (mF τ k) = τ := by
  have : va_up τ.2.2 k (mF τ k) = τ.2.2 := by
    funext j
    unfold va_up
    split
    · rename_i h; subst h; rfl
    · rfl
  unfold tF
  rw [this]
theorem rs3_0 (σ : MS) : r3F σ 0 = σ := by
  unfold r3F
  rw [fI_0, fI_0, fI_0, fD_0, tF_self, tJ_self, tJ_self]
  exact tJ_self _ _
theorem Mi.mono {G : GT} {P P2 : Int32 → MS → Prop} (h : ∀ r u, P r u → P2 r u) : ∀ v t, Mi G P v t → Mi G P2 v t := fun _ _ ⟨r, u, q1, q2, q3⟩ => ⟨r, u, q1, h r u q2, q3⟩
theorem mwS_J6 (G : GT) (σ : MS) (f : Nat → Int32) : List.set (mw G σ) 1 (gad G 21, .inl (gk G 0, 24, aI f)) = mw G (tJ σ 6 f) := rfl
theorem mwS_J7 (G : GT) (σ : MS) (f : Nat → Int32) : List.set (mw G σ) 2 (gad G 22, .inl (gk G 0, 24, aI f)) = mw G (tJ σ 7 f) := rfl
theorem mwS_J8 (G : GT) (σ : MS) (f : Nat → Int32) : List.set (mw G σ) 3 (gad G 23, .inl (gk G 0, 24, aI f)) = mw G (tJ σ 8 f) := rfl
theorem mwS_J9 (G : GT) (σ : MS) (f : Nat → Int32) : List.set (mw G σ) 4 (gad G 24, .inl (gk G 0, 24, aI f)) = mw G (tJ σ 9 f) := rfl
theorem mwS_J10 (G : GT) (σ : MS) (f : Nat → Int32) : List.set (mw G σ) 5 (gad G 25, .inl (gk G 0, 24, aI f)) = mw G (tJ σ 10 f) := rfl
theorem mwS_J0 (G : GT) (σ : MS) (f : Nat → Int32) : List.set (mw G σ) 6 (gad G 26, .inl (gk G 0, 8, aI f)) = mw G (tJ σ 0 f) := rfl
theorem mwS_J1 (G : GT) (σ : MS) (f : Nat → Int32) : List.set (mw G σ) 7 (gad G 27, .inl (gk G 0, 12, aI f)) = mw G (tJ σ 1 f) := rfl
theorem mwS_J2 (G : GT) (σ : MS) (f : Nat → Int32) : List.set (mw G σ) 8 (gad G 28, .inl (gk G 0, 2, aI f)) = mw G (tJ σ 2 f) := rfl
theorem mwS_J3 (G : GT) (σ : MS) (f : Nat → Int32) : List.set (mw G σ) 9 (gad G 29, .inl (gk G 0, 4, aI f)) = mw G (tJ σ 3 f) := rfl
theorem mwS_J4 (G : GT) (σ : MS) (f : Nat → Int32) : List.set (mw G σ) 10 (gad G 30, .inl (gk G 0, 4, aI f)) = mw G (tJ σ 4 f) := rfl
theorem mwS_J5 (G : GT) (σ : MS) (f : Nat → Int32) : List.set (mw G σ) 11 (gad G 31, .inl (gk G 0, 8, aI f)) = mw G (tJ σ 5 f) := rfl
theorem mwS_F1 (G : GT) (σ : MS) (f : Nat → UInt64) : List.set (mw G σ) 12 (gad G 32, .inl (gk G 1, 4, aD f)) = mw G (tF σ 1 f) := rfl
theorem mwS_F0 (G : GT) (σ : MS) (f : Nat → UInt64) : List.set (mw G σ) 13 (gad G 33, .inl (gk G 1, 48, aD f)) = mw G (tF σ 0 f) := rfl
theorem mwS_J11 (G : GT) (σ : MS) (f : Nat → Int32) : List.set (mw G σ) 14 (gad G 34, .inl (gk G 0, 24, aI f)) = mw G (tJ σ 11 f) := rfl
theorem mwS_J12 (G : GT) (σ : MS) (f : Nat → Int32) : List.set (mw G σ) 15 (gad G 35, .inl (gk G 0, 24, aI f)) = mw G (tJ σ 12 f) := rfl
theorem mwS_J13 (G : GT) (σ : MS) (f : Nat → Int32) : List.set (mw G σ) 16 (gad G 36, .inl (gk G 0, 120, aI f)) = mw G (tJ σ 13 f) := rfl
theorem mwS_J14 (G : GT) (σ : MS) (f : Nat → Int32) : List.set (mw G σ) 17 (gad G 37, .inl (gk G 2, 24, aI f)) = mw G (tJ σ 14 f) := rfl
end MReset
set_option maxHeartbeats 4000000 in
set_option maxRecDepth 100000 in
theorem K_Mo_reset {l : Launch} {G : GT} (g : MOK l G) (σ : MS) : cx_M l y_Mo_reset (.code y_Mo_reset b_Mo_reset 2 none) 0 0 (gA G) [.ref (gad G 20)] (Mw G σ) (Mv G (fun u => u = rsM σ)) (Tn) := by
  refine cx_of (by decide +kernel) ?_
  intro p e s m below meth c s₁ B hml ht hc
  have hx := B.exec
  have hb := B.bytes
  have hr := B.returns
  have hown : s.vm.findClass R_Mo = some m.cls := findClass_of_methodNamed B.named
  have hlocks := B.notSynchronized
  have hT := g.tb hc
  have hK := g.k hc
  have hD := g.d (τ := σ)
  have hS : va_S (gA G) s.heap s.heap [] := va_S.rf
  have hP := hc.2.2
  have hl := lv_entry ([.ref (gad G 20)]) (n := 2) (Nat.le_of_ble_eq_true rfl)
  rw [lg_entry_eq]
  generalize (lg_sl ([.ref (gad G 20)]) ++ List.replicate (2 - (lg_sl ([.ref (gad G 20)])).length) Slot.unset).toArray = ls at hl ⊢
  have hl : lv_has ls 2 [(0, .ref (gad G 20))] := hl
  refine lv_iconst (v := 0) hx hb d_Mo_reset_0 (by decide) ?_
  refine lv_istore_n (lv' := [(1, .int 0), (0, .ref (gad G 20))]) hx hb d_Mo_reset_1 rfl hl (by decide) rfl (fun ls hl => ?_)
  have li1 : ((nI 0) : Int32) = 0 := nI_0
  refine W_for (N := 12) (fun j H locs ls => va_P (gD G) classes (mw G (tJ σ 1 (fI (mJ σ 1) j 0))) H ∧ va_S (gA G) s.heap H locs ∧ lv_has ls 2 [(1, .int (nI j)), (0, .ref (gad G 20))]) (fun ls => F0 m 2 ls []) (fun j H locs ls hj hJ kj => ?_) (fun H locs ls hJ => ?_) 0 _ _ _ (Nat.zero_le _) ⟨by rw [rs1_0]; exact hP, hS, by rw [li1]; exact lv_sub hl [0, 1] rfl⟩
  · obtain ⟨hP, hS, hl⟩ := hJ
    generalize hSj : (tJ σ 1 (fI (mJ σ 1) j 0)) = Sj at hP
    have hD := g.d (τ := Sj)
    refine lv_iload_n hx hb d_Mo_reset_2 rfl (lv_at hl 0 rfl) ?_
    refine lv_bipush (v := 12) hx hb d_Mo_reset_3 (by decide) ?_
    refine lv_icmp_ge (tgt := 21) hx hb d_Mo_reset_5 (by decide) (fun c5 => ?_) (fun c5 => ?_)
    · exact absurd c5 (nI_ge hj (by decide))
    · refine lv_aload_n hx hb d_Mo_reset_8 rfl (lv_at hl 1 rfl) ?_
      refine va_get (D := gD G) (ci := 7) (v := .ref (gad G 27)) (C := R_Mo) (T := F_Mo) (N := 29) hx hb (wl_Mo hT) (fun _ h9 => h9) hown hK hP 0 rfl rfl 6 (by decide) (k_576 hT) (fun _ h9 => h9) rfl d_Mo_reset_9 ?_
      refine lv_iload_n hx hb d_Mo_reset_12 rfl (lv_at hl 0 rfl) ?_
      refine lv_iconst (v := 0) hx hb d_Mo_reset_13 (by decide) ?_
      refine va_iast (f := (mJ Sj 1)) hx hb hK hP hD hS 7 0 rfl rfl (vp_in_nI hj (by decide)) d_Mo_reset_14 (fun H locs hP hD hS => ?_)
      have hP : va_P (gD G) classes (mw G (tJ Sj 1 (upd (mJ Sj 1) (nI j).toNatClampNeg 0))) H := by have h9 := hP; rw [mwS_J1] at h9; exact h9
      have hD : va_D (gA G) (mw G (tJ Sj 1 (upd (mJ Sj 1) (nI j).toNatClampNeg 0))) := g.d
      refine lv_iinc (v := ((nI j) + 1)) (lv' := [(1, .int ((nI j) + 1)), (0, .ref (gad G 20))]) hx hb d_Mo_reset_15 hl (k := 0) rfl rfl (by decide) rfl (fun ls hl => ?_)
      refine lv_goto (tgt := 2) hx hb d_Mo_reset_18 (by decide) ?_
      have lb1 : ((nI (j + 1)) : Int32) = ((nI j) + 1) := (nI_1 _).symm
      exact kj _ _ _ ⟨by rw [rs1 σ hj, hSj]; exact hP, hS, by rw [lb1]; exact lv_sub hl [0, 1] rfl⟩
  · obtain ⟨hP, hS, hl⟩ := hJ
    generalize hSj : (tJ σ 1 (fI (mJ σ 1) 12 0)) = Sj at hP
    have hD := g.d (τ := Sj)
    refine lv_iload_n hx hb d_Mo_reset_2 rfl (lv_at hl 0 rfl) ?_
    refine lv_bipush (v := 12) hx hb d_Mo_reset_3 (by decide) ?_
    refine lv_icmp_ge (tgt := 21) hx hb d_Mo_reset_5 (by decide) (fun c5 => ?_) (fun c5 => ?_)
    · refine lv_iconst (v := 0) hx hb d_Mo_reset_21 (by decide) ?_
      refine lv_istore_n (lv' := [(1, .int 0), (0, .ref (gad G 20))]) hx hb d_Mo_reset_22 rfl hl (by decide) rfl (fun ls hl => ?_)
      have li1 : ((nI 0) : Int32) = 0 := nI_0
      refine W_for (N := 8) (fun j H locs ls => va_P (gD G) classes (mw G (r2F (tJ σ 1 (fI (mJ σ 1) 12 0)) j)) H ∧ va_S (gA G) s.heap H locs ∧ lv_has ls 2 [(1, .int (nI j)), (0, .ref (gad G 20))]) (fun ls => F0 m 23 ls []) (fun j H locs ls hj hJ kj => ?_) (fun H locs ls hJ => ?_) 0 _ _ _ (Nat.zero_le _) ⟨by rw [rs2_0, hSj]; exact hP, hS, by rw [li1]; exact lv_sub hl [0, 1] rfl⟩
      · obtain ⟨hP, hS, hl⟩ := hJ
        generalize hSj : (r2F (tJ σ 1 (fI (mJ σ 1) 12 0)) j) = Sj at hP
        have hD := g.d (τ := Sj)
        refine lv_iload_n hx hb d_Mo_reset_23 rfl (lv_at hl 0 rfl) ?_
        refine lv_bipush (v := 8) hx hb d_Mo_reset_24 (by decide) ?_
        refine lv_icmp_ge (tgt := 49) hx hb d_Mo_reset_26 (by decide) (fun c26 => ?_) (fun c26 => ?_)
        · exact absurd c26 (nI_ge hj (by decide))
        · refine lv_aload_n hx hb d_Mo_reset_29 rfl (lv_at hl 1 rfl) ?_
          refine va_get (D := gD G) (ci := 7) (v := .ref (gad G 26)) (C := R_Mo) (T := F_Mo) (N := 29) hx hb (wl_Mo hT) (fun _ h9 => h9) hown hK hP 0 rfl rfl 5 (by decide) (k_575 hT) (fun _ h9 => h9) rfl d_Mo_reset_30 ?_
          refine lv_iload_n hx hb d_Mo_reset_33 rfl (lv_at hl 0 rfl) ?_
          refine lv_iconst (v := 0) hx hb d_Mo_reset_34 (by decide) ?_
          refine va_iast (f := (mJ Sj 0)) hx hb hK hP hD hS 6 0 rfl rfl (vp_in_nI hj (by decide)) d_Mo_reset_35 (fun H locs hP hD hS => ?_)
          have hP : va_P (gD G) classes (mw G (tJ Sj 0 (upd (mJ Sj 0) (nI j).toNatClampNeg 0))) H := by have h9 := hP; rw [mwS_J0] at h9; exact h9
          have hD : va_D (gA G) (mw G (tJ Sj 0 (upd (mJ Sj 0) (nI j).toNatClampNeg 0))) := g.d
          refine lv_aload_n hx hb d_Mo_reset_36 rfl (lv_at hl 1 rfl) ?_
          refine va_get (D := gD G) (ci := 7) (v := .ref (gad G 31)) (C := R_Mo) (T := F_Mo) (N := 29) hx hb (wl_Mo hT) (fun _ h9 => h9) hown hK hP 0 rfl rfl 10 (by decide) (k_580 hT) (fun _ h9 => h9) rfl d_Mo_reset_37 ?_
          refine lv_iload_n hx hb d_Mo_reset_40 rfl (lv_at hl 0 rfl) ?_
          refine lv_iconst (v := 1) hx hb d_Mo_reset_41 (by decide) ?_
          refine va_iast (f := (mJ Sj 5)) hx hb hK hP hD hS 11 0 rfl rfl (vp_in_nI hj (by decide)) d_Mo_reset_42 (fun H locs hP hD hS => ?_)
          have hP : va_P (gD G) classes (mw G (tJ (tJ Sj 0 (upd (mJ Sj 0) (nI j).toNatClampNeg 0)) 5 (upd (mJ Sj 5) (nI j).toNatClampNeg 1))) H := by have h9 := hP; rw [mwS_J5] at h9; exact h9
          have hD : va_D (gA G) (mw G (tJ (tJ Sj 0 (upd (mJ Sj 0) (nI j).toNatClampNeg 0)) 5 (upd (mJ Sj 5) (nI j).toNatClampNeg 1))) := g.d
          refine lv_iinc (v := ((nI j) + 1)) (lv' := [(1, .int ((nI j) + 1)), (0, .ref (gad G 20))]) hx hb d_Mo_reset_43 hl (k := 0) rfl rfl (by decide) rfl (fun ls hl => ?_)
          refine lv_goto (tgt := 23) hx hb d_Mo_reset_46 (by decide) ?_
          have lb1 : ((nI (j + 1)) : Int32) = ((nI j) + 1) := (nI_1 _).symm
          exact kj _ _ _ ⟨by rw [rs2 (tJ σ 1 (fI (mJ σ 1) 12 0)) hj, hSj]; exact hP, hS, by rw [lb1]; exact lv_sub hl [0, 1] rfl⟩
      · obtain ⟨hP, hS, hl⟩ := hJ
        generalize hSj : (r2F (tJ σ 1 (fI (mJ σ 1) 12 0)) 8) = Sj at hP
        have hD := g.d (τ := Sj)
        refine lv_iload_n hx hb d_Mo_reset_23 rfl (lv_at hl 0 rfl) ?_
        refine lv_bipush (v := 8) hx hb d_Mo_reset_24 (by decide) ?_
        refine lv_icmp_ge (tgt := 49) hx hb d_Mo_reset_26 (by decide) (fun c26 => ?_) (fun c26 => ?_)
        · refine lv_iconst (v := 0) hx hb d_Mo_reset_49 (by decide) ?_
          refine lv_istore_n (lv' := [(1, .int 0), (0, .ref (gad G 20))]) hx hb d_Mo_reset_50 rfl hl (by decide) rfl (fun ls hl => ?_)
          have li1 : ((nI 0) : Int32) = 0 := nI_0
          refine W_for (N := 4) (fun j H locs ls => va_P (gD G) classes (mw G (r3F (r2F (tJ σ 1 (fI (mJ σ 1) 12 0)) 8) j)) H ∧ va_S (gA G) s.heap H locs ∧ lv_has ls 2 [(1, .int (nI j)), (0, .ref (gad G 20))]) (fun ls => F0 m 51 ls []) (fun j H locs ls hj hJ kj => ?_) (fun H locs ls hJ => ?_) 0 _ _ _ (Nat.zero_le _) ⟨by rw [rs3_0, hSj]; exact hP, hS, by rw [li1]; exact lv_sub hl [0, 1] rfl⟩
          · obtain ⟨hP, hS, hl⟩ := hJ
            generalize hSj : (r3F (r2F (tJ σ 1 (fI (mJ σ 1) 12 0)) 8) j) = Sj at hP
            have hD := g.d (τ := Sj)
            refine lv_iload_n hx hb d_Mo_reset_51 rfl (lv_at hl 0 rfl) ?_
            refine lv_iconst (v := 4) hx hb d_Mo_reset_52 (by decide) ?_
            refine lv_icmp_ge (tgt := 92) hx hb d_Mo_reset_53 (by decide) (fun c53 => ?_) (fun c53 => ?_)
            · exact absurd c53 (nI_ge hj (by decide))
            · refine lv_aload_n hx hb d_Mo_reset_56 rfl (lv_at hl 1 rfl) ?_
              refine va_get (D := gD G) (ci := 7) (v := .ref (gad G 32)) (C := R_Mo) (T := F_Mo) (N := 29) hx hb (wl_Mo hT) (fun _ h9 => h9) hown hK hP 0 rfl rfl 11 (by decide) (k_581 hT) (fun _ h9 => h9) rfl d_Mo_reset_57 ?_
              refine lv_iload_n hx hb d_Mo_reset_60 rfl (lv_at hl 0 rfl) ?_
              refine lv_dconst0 hx hb d_Mo_reset_61 ?_
              refine va_dast (f := (mF Sj 1)) hx hb hK hP hD hS 12 1 rfl rfl (vp_in_nI hj (by decide)) d_Mo_reset_62 (fun H locs hP hD hS => ?_)
              have hP : va_P (gD G) classes (mw G (tF Sj 1 (vf_upd (mF Sj 1) (nI j).toNatClampNeg FP.dconst0))) H := by have h9 := hP; rw [mwS_F1] at h9; exact h9
              have hD : va_D (gA G) (mw G (tF Sj 1 (vf_upd (mF Sj 1) (nI j).toNatClampNeg FP.dconst0))) := g.d
              refine lv_aload_n hx hb d_Mo_reset_63 rfl (lv_at hl 1 rfl) ?_
              refine va_get (D := gD G) (ci := 7) (v := .ref (gad G 29)) (C := R_Mo) (T := F_Mo) (N := 29) hx hb (wl_Mo hT) (fun _ h9 => h9) hown hK hP 0 rfl rfl 8 (by decide) (k_578 hT) (fun _ h9 => h9) rfl d_Mo_reset_64 ?_
              refine lv_iload_n hx hb d_Mo_reset_67 rfl (lv_at hl 0 rfl) ?_
              refine lv_iconst (v := (-1)) hx hb d_Mo_reset_68 (by decide) ?_
              refine va_iast (f := (mJ Sj 3)) hx hb hK hP hD hS 9 0 rfl rfl (vp_in_nI hj (by decide)) d_Mo_reset_69 (fun H locs hP hD hS => ?_)
              have hP : va_P (gD G) classes (mw G (tJ (tF Sj 1 (vf_upd (mF Sj 1) (nI j).toNatClampNeg FP.dconst0)) 3 (upd (mJ Sj 3) (nI j).toNatClampNeg (-1)))) H := by have h9 := hP; rw [mwS_J3] at h9; exact h9
              have hD : va_D (gA G) (mw G (tJ (tF Sj 1 (vf_upd (mF Sj 1) (nI j).toNatClampNeg FP.dconst0)) 3 (upd (mJ Sj 3) (nI j).toNatClampNeg (-1)))) := g.d
              refine lv_aload_n hx hb d_Mo_reset_70 rfl (lv_at hl 1 rfl) ?_
              refine va_get (D := gD G) (ci := 7) (v := .ref (gad G 30)) (C := R_Mo) (T := F_Mo) (N := 29) hx hb (wl_Mo hT) (fun _ h9 => h9) hown hK hP 0 rfl rfl 9 (by decide) (k_579 hT) (fun _ h9 => h9) rfl d_Mo_reset_71 ?_
              refine lv_iload_n hx hb d_Mo_reset_74 rfl (lv_at hl 0 rfl) ?_
              refine lv_iconst (v := 0) hx hb d_Mo_reset_75 (by decide) ?_
              refine va_iast (f := (mJ Sj 4)) hx hb hK hP hD hS 10 0 rfl rfl (vp_in_nI hj (by decide)) d_Mo_reset_76 (fun H locs hP hD hS => ?_)
              have hP : va_P (gD G) classes (mw G (tJ (tJ (tF Sj 1 (vf_upd (mF Sj 1) (nI j).toNatClampNeg FP.dconst0)) 3 (upd (mJ Sj 3) (nI j).toNatClampNeg (-1))) 4 (upd (mJ Sj 4) (nI j).toNatClampNeg 0))) H := by have h9 := hP; rw [mwS_J4] at h9; exact h9
              have hD : va_D (gA G) (mw G (tJ (tJ (tF Sj 1 (vf_upd (mF Sj 1) (nI j).toNatClampNeg FP.dconst0)) 3 (upd (mJ Sj 3) (nI j).toNatClampNeg (-1))) 4 (upd (mJ Sj 4) (nI j).toNatClampNeg 0))) := g.d
              refine lv_aload_n hx hb d_Mo_reset_77 rfl (lv_at hl 1 rfl) ?_
              refine va_get (D := gD G) (ci := 7) (v := .ref (gad G 28)) (C := R_Mo) (T := F_Mo) (N := 29) hx hb (wl_Mo hT) (fun _ h9 => h9) hown hK hP 0 rfl rfl 7 (by decide) (k_577 hT) (fun _ h9 => h9) rfl d_Mo_reset_78 ?_
              refine lv_iload_n hx hb d_Mo_reset_81 rfl (lv_at hl 0 rfl) ?_
              refine lv_iconst (v := 2) hx hb d_Mo_reset_82 (by decide) ?_
              refine lv_idiv hx hb d_Mo_reset_83 (by decide) ?_
              obtain ⟨x2, hx2⟩ : ∃ x : Int32, x = nI j / 2 := ⟨_, rfl⟩
              refine W.eq (g2 := F0 m 84 ls [.int x2, .ref (gad G 28)]) (by rw [hx2]) ?_
              refine lv_iconst (v := (-1)) hx hb d_Mo_reset_84 (by decide) ?_
              refine va_iast (f := (mJ Sj 2)) hx hb hK hP hD hS 8 0 rfl rfl (by rw [hx2]; exact d2in hj) d_Mo_reset_85 (fun H locs hP hD hS => ?_)
              have hP : va_P (gD G) classes (mw G (tJ (tJ (tJ (tF Sj 1 (vf_upd (mF Sj 1) (nI j).toNatClampNeg FP.dconst0)) 3 (upd (mJ Sj 3) (nI j).toNatClampNeg (-1))) 4 (upd (mJ Sj 4) (nI j).toNatClampNeg 0)) 2 (upd (mJ Sj 2) x2.toNatClampNeg (-1)))) H := by have h9 := hP; rw [mwS_J2] at h9; exact h9
              have hD : va_D (gA G) (mw G (tJ (tJ (tJ (tF Sj 1 (vf_upd (mF Sj 1) (nI j).toNatClampNeg FP.dconst0)) 3 (upd (mJ Sj 3) (nI j).toNatClampNeg (-1))) 4 (upd (mJ Sj 4) (nI j).toNatClampNeg 0)) 2 (upd (mJ Sj 2) x2.toNatClampNeg (-1)))) := g.d
              refine lv_iinc (v := ((nI j) + 1)) (lv' := [(1, .int ((nI j) + 1)), (0, .ref (gad G 20))]) hx hb d_Mo_reset_86 hl (k := 0) rfl rfl (by decide) rfl (fun ls hl => ?_)
              refine lv_goto (tgt := 51) hx hb d_Mo_reset_89 (by decide) ?_
              have lb1 : ((nI (j + 1)) : Int32) = ((nI j) + 1) := (nI_1 _).symm
              exact kj _ _ _ ⟨by rw [rs3 (r2F (tJ σ 1 (fI (mJ σ 1) 12 0)) 8) hj, hSj, ← hx2]; exact hP, hS, by rw [lb1]; exact lv_sub hl [0, 1] rfl⟩
          · obtain ⟨hP, hS, hl⟩ := hJ
            generalize hSj : (r3F (r2F (tJ σ 1 (fI (mJ σ 1) 12 0)) 8) 4) = Sj at hP
            have hD := g.d (τ := Sj)
            refine lv_iload_n hx hb d_Mo_reset_51 rfl (lv_at hl 0 rfl) ?_
            refine lv_iconst (v := 4) hx hb d_Mo_reset_52 (by decide) ?_
            refine lv_icmp_ge (tgt := 92) hx hb d_Mo_reset_53 (by decide) (fun c53 => ?_) (fun c53 => ?_)
            · refine lv_aload_n hx hb d_Mo_reset_92 rfl (lv_at hl 1 rfl) ?_
              refine lv_aload_n hx hb d_Mo_reset_93 rfl (lv_at hl 1 rfl) ?_
              refine lv_aload_n hx hb d_Mo_reset_94 rfl (lv_at hl 1 rfl) ?_
              refine lv_aload_n hx hb d_Mo_reset_95 rfl (lv_at hl 1 rfl) ?_
              refine lv_aload_n hx hb d_Mo_reset_96 rfl (lv_at hl 1 rfl) ?_
              refine lv_aload_n hx hb d_Mo_reset_97 rfl (lv_at hl 1 rfl) ?_
              refine lv_aload_n hx hb d_Mo_reset_98 rfl (lv_at hl 1 rfl) ?_
              refine lv_iconst (v := 0) hx hb d_Mo_reset_99 (by decide) ?_
              refine lv_dup_x1 hx hb d_Mo_reset_100 rfl rfl ?_
              refine va_put (D := gD G) (ci := 7) (v := .int 0) (ty := .int) (C := R_Mo) (T := F_Mo) (N := 29) hx hb (wl_Mo hT) (fun _ h9 => h9) fy_Mo fy_Mo_ok fn_Mo hown hK hP hD hS 0 rfl rfl 25 (by decide) (k_595 hT) (fun _ h9 => h9) rfl (by decide +kernel) rfl rfl (Nat.le_of_ble_eq_true rfl) d_Mo_reset_101 (fun H locs hP hD hS => ?_)
              have hP : va_P (gD G) classes (mw G (tI Sj 9 0)) H := hP
              have hD : va_D (gA G) (mw G (tI Sj 9 0)) := g.d
              refine lv_dup_x1 hx hb d_Mo_reset_104 rfl rfl ?_
              refine va_put (D := gD G) (ci := 7) (v := .int 0) (ty := .int) (C := R_Mo) (T := F_Mo) (N := 29) hx hb (wl_Mo hT) (fun _ h9 => h9) fy_Mo fy_Mo_ok fn_Mo hown hK hP hD hS 0 rfl rfl 24 (by decide) (k_594 hT) (fun _ h9 => h9) rfl (by decide +kernel) rfl rfl (Nat.le_of_ble_eq_true rfl) d_Mo_reset_105 (fun H locs hP hD hS => ?_)
              have hP : va_P (gD G) classes (mw G (tI (tI Sj 9 0) 5 0)) H := hP
              have hD : va_D (gA G) (mw G (tI (tI Sj 9 0) 5 0)) := g.d
              refine lv_dup_x1 hx hb d_Mo_reset_108 rfl rfl ?_
              refine va_put (D := gD G) (ci := 7) (v := .int 0) (ty := .int) (C := R_Mo) (T := F_Mo) (N := 29) hx hb (wl_Mo hT) (fun _ h9 => h9) fy_Mo fy_Mo_ok fn_Mo hown hK hP hD hS 0 rfl rfl 23 (by decide) (k_593 hT) (fun _ h9 => h9) rfl (by decide +kernel) rfl rfl (Nat.le_of_ble_eq_true rfl) d_Mo_reset_109 (fun H locs hP hD hS => ?_)
              have hP : va_P (gD G) classes (mw G (tI (tI (tI Sj 9 0) 5 0) 4 0)) H := hP
              have hD : va_D (gA G) (mw G (tI (tI (tI Sj 9 0) 5 0) 4 0)) := g.d
              refine lv_dup_x1 hx hb d_Mo_reset_112 rfl rfl ?_
              refine va_put (D := gD G) (ci := 7) (v := .int 0) (ty := .int) (C := R_Mo) (T := F_Mo) (N := 29) hx hb (wl_Mo hT) (fun _ h9 => h9) fy_Mo fy_Mo_ok fn_Mo hown hK hP hD hS 0 rfl rfl 22 (by decide) (k_592 hT) (fun _ h9 => h9) rfl (by decide +kernel) rfl rfl (Nat.le_of_ble_eq_true rfl) d_Mo_reset_113 (fun H locs hP hD hS => ?_)
              have hP : va_P (gD G) classes (mw G (tI (tI (tI (tI Sj 9 0) 5 0) 4 0) 10 0)) H := hP
              have hD : va_D (gA G) (mw G (tI (tI (tI (tI Sj 9 0) 5 0) 4 0) 10 0)) := g.d
              refine lv_dup_x1 hx hb d_Mo_reset_116 rfl rfl ?_
              refine va_put (D := gD G) (ci := 7) (v := .int 0) (ty := .int) (C := R_Mo) (T := F_Mo) (N := 29) hx hb (wl_Mo hT) (fun _ h9 => h9) fy_Mo fy_Mo_ok fn_Mo hown hK hP hD hS 0 rfl rfl 21 (by decide) (k_591 hT) (fun _ h9 => h9) rfl (by decide +kernel) rfl rfl (Nat.le_of_ble_eq_true rfl) d_Mo_reset_117 (fun H locs hP hD hS => ?_)
              have hP : va_P (gD G) classes (mw G (tI (tI (tI (tI (tI Sj 9 0) 5 0) 4 0) 10 0) 8 0)) H := hP
              have hD : va_D (gA G) (mw G (tI (tI (tI (tI (tI Sj 9 0) 5 0) 4 0) 10 0) 8 0)) := g.d
              refine lv_dup_x1 hx hb d_Mo_reset_120 rfl rfl ?_
              refine va_put (D := gD G) (ci := 7) (v := .int 0) (ty := .int) (C := R_Mo) (T := F_Mo) (N := 29) hx hb (wl_Mo hT) (fun _ h9 => h9) fy_Mo fy_Mo_ok fn_Mo hown hK hP hD hS 0 rfl rfl 20 (by decide) (k_590 hT) (fun _ h9 => h9) rfl (by decide +kernel) rfl rfl (Nat.le_of_ble_eq_true rfl) d_Mo_reset_121 (fun H locs hP hD hS => ?_)
              have hP : va_P (gD G) classes (mw G (tI (tI (tI (tI (tI (tI Sj 9 0) 5 0) 4 0) 10 0) 8 0) 7 0)) H := hP
              have hD : va_D (gA G) (mw G (tI (tI (tI (tI (tI (tI Sj 9 0) 5 0) 4 0) 10 0) 8 0) 7 0)) := g.d
              refine va_put (D := gD G) (ci := 7) (v := .int 0) (ty := .int) (C := R_Mo) (T := F_Mo) (N := 29) hx hb (wl_Mo hT) (fun _ h9 => h9) fy_Mo fy_Mo_ok fn_Mo hown hK hP hD hS 0 rfl rfl 18 (by decide) (k_588 hT) (fun _ h9 => h9) rfl (by decide +kernel) rfl rfl (Nat.le_of_ble_eq_true rfl) d_Mo_reset_124 (fun H locs hP hD hS => ?_)
              have hP : va_P (gD G) classes (mw G (tI (tI (tI (tI (tI (tI (tI Sj 9 0) 5 0) 4 0) 10 0) 8 0) 7 0) 2 0)) H := hP
              have hD : va_D (gA G) (mw G (tI (tI (tI (tI (tI (tI (tI Sj 9 0) 5 0) 4 0) 10 0) 8 0) 7 0) 2 0)) := g.d
              refine lv_aload_n hx hb d_Mo_reset_127 rfl (lv_at hl 1 rfl) ?_
              refine lv_iconst (v := (-1)) hx hb d_Mo_reset_128 (by decide) ?_
              refine va_put (D := gD G) (ci := 7) (v := .int (-1)) (ty := .int) (C := R_Mo) (T := F_Mo) (N := 29) hx hb (wl_Mo hT) (fun _ h9 => h9) fy_Mo fy_Mo_ok fn_Mo hown hK hP hD hS 0 rfl rfl 19 (by decide) (k_589 hT) (fun _ h9 => h9) rfl (by decide +kernel) rfl rfl (Nat.le_of_ble_eq_true rfl) d_Mo_reset_129 (fun H locs hP hD hS => ?_)
              have hP : va_P (gD G) classes (mw G (tI (tI (tI (tI (tI (tI (tI (tI Sj 9 0) 5 0) 4 0) 10 0) 8 0) 7 0) 2 0) 3 (-1))) H := hP
              have hD : va_D (gA G) (mw G (tI (tI (tI (tI (tI (tI (tI (tI Sj 9 0) 5 0) 4 0) 10 0) 8 0) 7 0) 2 0) 3 (-1))) := g.d
              refine lv_aload_n hx hb d_Mo_reset_132 rfl (lv_at hl 1 rfl) ?_
              refine lv_iconst (v := 0) hx hb d_Mo_reset_133 (by decide) ?_
              refine va_put (D := gD G) (ci := 7) (v := .int 0) (ty := .boolean) (C := R_Mo) (T := F_Mo) (N := 29) hx hb (wl_Mo hT) (fun _ h9 => h9) fy_Mo fy_Mo_ok fn_Mo hown hK hP hD hS 0 rfl rfl 28 (by decide) (k_598 hT) (fun _ h9 => h9) rfl (by decide +kernel) rfl rfl (Nat.le_of_ble_eq_true rfl) d_Mo_reset_134 (fun H locs hP hD hS => ?_)
              have hP : va_P (gD G) classes (mw G (tI (tI (tI (tI (tI (tI (tI (tI (tI Sj 9 0) 5 0) 4 0) 10 0) 8 0) 7 0) 2 0) 3 (-1)) 6 0)) H := hP
              have hD : va_D (gA G) (mw G (tI (tI (tI (tI (tI (tI (tI (tI (tI Sj 9 0) 5 0) 4 0) 10 0) 8 0) 7 0) 2 0) 3 (-1)) 6 0)) := g.d
              exact mend_v (u := (tI (tI (tI (tI (tI (tI (tI (tI (tI Sj 9 0) 5 0) 4 0) 10 0) 8 0) 7 0) 2 0) 3 (-1)) 6 0)) hx hb hr hlocks hS hP d_Mo_reset_137 (by rw [← hSj]; rfl)
            · exact absurd (nI_le (Nat.le_refl _) (by decide)) c53
        · exact absurd (nI_le (Nat.le_refl _) (by decide)) c26
    · exact absurd (nI_le (Nat.le_refl _) (by decide)) c5

theorem st_t {σ : MS} {i : Int32} (h : inF i 0 23 = true) : tI (tI (rsM (bdF σ (inF i 0 23))) 0 i) 1 0 = (if inF i 0 23 then tI (tI (rsM (bdF σ true)) 0 i) 1 0 else bdF σ false) := by rw [if_pos h, h]
theorem st_f {σ : MS} {i : Int32} (h : inF i 0 23 = false) : bdF σ (inF i 0 23) = (if inF i 0 23 then tI (tI (rsM (bdF σ true)) 0 i) 1 0 else bdF σ false) := by rw [if_neg (by rw [h]; decide), h]
set_option maxHeartbeats 4000000 in
set_option maxRecDepth 100000 in
theorem K_Mo_start {l : Launch} {G : GT} (g : MOK l G) (σ : MS) (i : Int32) : cx_M l y_Mo_start (.code y_Mo_start b_Mo_start 2 none) 1 22 (gA G) [.ref (gad G 20), .int i] (Mw G σ) (Mv G (fun u => u = (if inF i 0 23 then tI (tI (rsM (bdF σ true)) 0 i) 1 0 else bdF σ false))) (Tn) := by
  refine cx_of (by decide +kernel) ?_
  intro p e s m below meth c s₁ B hml ht hc
  have hx := B.exec
  have hb := B.bytes
  have hr := B.returns
  have hown : s.vm.findClass R_Mo = some m.cls := findClass_of_methodNamed B.named
  have hlocks := B.notSynchronized
  have hT := g.tb hc
  have hK := g.k hc
  have hD := g.d (τ := σ)
  have hS : va_S (gA G) s.heap s.heap [] := va_S.rf
  have hP := hc.2.2
  have hl := lv_entry ([.ref (gad G 20), .int i]) (n := 2) (Nat.le_of_ble_eq_true rfl)
  rw [lg_entry_eq]
  generalize (lg_sl ([.ref (gad G 20), .int i]) ++ List.replicate (2 - (lg_sl ([.ref (gad G 20), .int i])).length) Slot.unset).toArray = ls at hl ⊢
  have hl : lv_has ls 2 [(0, .ref (gad G 20)), (1, .int i)] := hl
  refine lv_aload_n hx hb d_Mo_start_0 rfl (lv_at hl 0 rfl) ?_
  refine lv_iload_n hx hb d_Mo_start_1 rfl (lv_at hl 1 rfl) ?_
  refine lv_iconst (v := 0) hx hb d_Mo_start_2 (by decide) ?_
  refine lv_bipush (v := 23) hx hb d_Mo_start_3 (by decide) ?_
  refine cx_S (n := 3) (As := [.int i, .int 0, .int 23]) (rest := [.ref (gad G 20)]) ⟨hx, hb, hml, hown, fun _ h9 => nomatch h9⟩ (K_Mo_in g σ i 0 23 ) (k_666 hT) (k_667 hT) (k_668 hT) (k_9 hT) rfl (by decide +kernel) (hc.at g hS hP) ⟨by decide, by decide⟩ ⟨by decide, by decide⟩ hl.1 (Nat.le_of_ble_eq_true rfl) d_Mo_start_5 (fun _ h9 => h9) hS (fun _ _ _ _ _ _ _ h9 => h9.elim) (fun v t H locs ht9 hRt hz hk hS => ?_)
  obtain ⟨r, u, rfl, ⟨er, eu⟩, hP⟩ := hRt
  subst er
  rw [eu, ht9] at hP
  have hD : va_D (gA G) (mw G σ) := g.d
  refine W.eq (g2 := F0 m 8 ls [.int (b2i (inF i 0 23)), .ref (gad G 20)]) rfl ?_
  refine cx_V (n := 1) (C := R_Mo) (As := [.int (b2i (inF i 0 23))]) (rest := []) ⟨hx, hb, hml, hown, fun _ h9 => nomatch h9⟩ (K_Mo_bad g σ (inF i 0 23)) (k_669 hT) (k_671 hT) (ks_19 hT) (k_672 hT) (k_9 hT) rfl (by decide +kernel) (va_recv hK hP (ci := 7) (q0 := 0) rfl rfl) (hc.at g hS hP) ⟨by decide, by decide⟩ ⟨by decide, by decide⟩ hl.1 (Nat.le_of_ble_eq_true rfl) d_Mo_start_8 (fun _ h9 => h9) hS (fun _ _ _ _ _ _ _ h9 => h9.elim) (fun v t H locs ht9 hRt hz hk hS => ?_)
  obtain ⟨r, u, rfl, ⟨er, eu⟩, hP⟩ := hRt
  subst er
  rw [eu, ht9] at hP
  have hD : va_D (gA G) (mw G (bdF σ (inF i 0 23))) := g.d
  refine W.eq (g2 := F0 m 11 ls [.int (b2i (!(inF i 0 23)))]) rfl ?_
  refine lv_if_eq (tgt := 15) hx hb d_Mo_start_11 (by decide) (fun c11 => ?_) (fun c11 => ?_)
  · have c11 := b2i0 c11
    refine lv_aload_n hx hb d_Mo_start_15 rfl (lv_at hl 0 rfl) ?_
    refine cx_V (n := 0) (C := R_Mo) (As := []) (rest := []) ⟨hx, hb, hml, hown, fun _ h9 => nomatch h9⟩ (K_Mo_reset g (bdF σ (inF i 0 23))  ) (k_566 hT) (k_568 hT) (ks_18 hT) (k_569 hT) (k_9 hT) rfl (by decide +kernel) (va_recv hK hP (ci := 7) (q0 := 0) rfl rfl) (hc.at g hS hP) ⟨by decide, by decide⟩ ⟨by decide, by decide⟩ hl.1 (Nat.le_of_ble_eq_true rfl) d_Mo_start_16 (fun _ h9 => h9) hS (fun _ _ _ _ _ _ _ h9 => h9.elim) (fun v t H locs ht9 hRt hz hk hS => ?_)
    obtain ⟨u, rfl, eu, hP⟩ := hRt
    rw [eu, ht9] at hP
    have hD : va_D (gA G) (mw G (rsM (bdF σ (inF i 0 23)))) := g.d
    refine W.eq (g2 := F0 m 19 ls []) rfl ?_
    refine lv_aload_n hx hb d_Mo_start_19 rfl (lv_at hl 0 rfl) ?_
    refine lv_iload_n hx hb d_Mo_start_20 rfl (lv_at hl 1 rfl) ?_
    refine va_put (D := gD G) (ci := 7) (v := .int i) (ty := .int) (C := R_Mo) (T := F_Mo) (N := 29) hx hb (wl_Mo hT) (fun _ h9 => h9) fy_Mo fy_Mo_ok fn_Mo hown hK hP hD hS 0 rfl rfl 17 (by decide) (k_587 hT) (fun _ h9 => h9) rfl (by decide +kernel) rfl rfl (Nat.le_of_ble_eq_true rfl) d_Mo_start_21 (fun H locs hP hD hS => ?_)
    have hP : va_P (gD G) classes (mw G (tI (rsM (bdF σ (inF i 0 23))) 0 i)) H := hP
    have hD : va_D (gA G) (mw G (tI (rsM (bdF σ (inF i 0 23))) 0 i)) := g.d
    refine lv_aload_n hx hb d_Mo_start_24 rfl (lv_at hl 0 rfl) ?_
    refine lv_iconst (v := 0) hx hb d_Mo_start_25 (by decide) ?_
    refine va_put (D := gD G) (ci := 7) (v := .int 0) (ty := .boolean) (C := R_Mo) (T := F_Mo) (N := 29) hx hb (wl_Mo hT) (fun _ h9 => h9) fy_Mo fy_Mo_ok fn_Mo hown hK hP hD hS 0 rfl rfl 27 (by decide) (k_597 hT) (fun _ h9 => h9) rfl (by decide +kernel) rfl rfl (Nat.le_of_ble_eq_true rfl) d_Mo_start_26 (fun H locs hP hD hS => ?_)
    have hP : va_P (gD G) classes (mw G (tI (tI (rsM (bdF σ (inF i 0 23))) 0 i) 1 0)) H := hP
    have hD : va_D (gA G) (mw G (tI (tI (rsM (bdF σ (inF i 0 23))) 0 i) 1 0)) := g.d
    exact mend_v (u := (tI (tI (rsM (bdF σ (inF i 0 23))) 0 i) 1 0)) hx hb hr hlocks hS hP d_Mo_start_29 (st_t (by simpa using c11))
  · have c11 := b2i1 c11
    exact mend_v (u := (bdF σ (inF i 0 23))) hx hb hr hlocks hS hP d_Mo_start_14 (st_f (by simpa using c11))

set_option maxHeartbeats 4000000 in
set_option maxRecDepth 100000 in
theorem L_Mrun {l : Launch} {G : GT} {p : Program} {e : Env} {s : State} {m : MethodId} {args : Array Value} {below : List Frame} {meth : Method} {c : Code} (C : Mx l G p s m meth c b_Mo_run 3 (some .int) R_Mo) {n b : Int32} : ∀ (f : Nat) (σ : MS) (H : Heap) (locs : List Loc) (ls : Array Slot), MWr f σ b n → va_P (gD G) classes (mw G σ) H → va_S (gA G) s.heap H locs → lv_has ls 3 [(2, .int b), (0, .ref (gad G 20)), (1, .int n)] →
    W p l e (cx_room 3 83) s m args below meth c H locs 0 0 (cx_E below (gA G) (Mi G (fun r u => r = (if mI (ruM f σ b n) 11 ≤ 0 then mI (ruM f σ b n) 2 - b else 0) ∧ u = ruM f σ b n)) Tn args s) (F0 m 36 ls []) := by
  obtain ⟨hx, hb, hml, hr, hown, hlocks, ht, g, σ0, hc⟩ := C
  have hT := g.tb hc
  have hK := g.k hc
  intro f
  induction f with
  | zero =>
    intro σ H locs ls hw hP hS hl
    have hD := g.d (τ := σ)
    refine lv_aload_n hx hb d_Mo_run_36 rfl (lv_at hl 1 rfl) ?_
    refine va_get (D := gD G) (ci := 7) (v := .int (mI σ 2)) (C := R_Mo) (T := F_Mo) (N := 29) hx hb (wl_Mo hT) (fun _ h9 => h9) hown hK hP 0 rfl rfl 18 (by decide) (k_588 hT) (fun _ h9 => h9) rfl d_Mo_run_37 ?_
    refine lv_iload_n hx hb d_Mo_run_40 rfl (lv_at hl 0 rfl) ?_
    refine lv_isub hx hb d_Mo_run_41 ?_
    refine lv_iload_n hx hb d_Mo_run_42 rfl (lv_at hl 2 rfl) ?_
    refine lv_icmp_ge (tgt := 60) hx hb d_Mo_run_43 (by decide) (fun c43 => ?_) (fun c43 => ?_)
    · refine lv_aload_n hx hb d_Mo_run_60 rfl (lv_at hl 1 rfl) ?_
      refine va_get (D := gD G) (ci := 7) (v := .int (mI σ 11)) (C := R_Mo) (T := F_Mo) (N := 29) hx hb (wl_Mo hT) (fun _ h9 => h9) hown hK hP 0 rfl rfl 26 (by decide) (k_596 hT) (fun _ h9 => h9) rfl d_Mo_run_61 ?_
      refine lv_if_le (tgt := 71) hx hb d_Mo_run_64 (by decide) (fun c64 => ?_) (fun c64 => ?_)
      · refine lv_aload_n hx hb d_Mo_run_71 rfl (lv_at hl 1 rfl) ?_
        refine va_get (D := gD G) (ci := 7) (v := .int (mI σ 2)) (C := R_Mo) (T := F_Mo) (N := 29) hx hb (wl_Mo hT) (fun _ h9 => h9) hown hK hP 0 rfl rfl 18 (by decide) (k_588 hT) (fun _ h9 => h9) rfl d_Mo_run_72 ?_
        refine lv_iload_n hx hb d_Mo_run_75 rfl (lv_at hl 0 rfl) ?_
        refine lv_isub hx hb d_Mo_run_76 ?_
        have e9 : ruM 0 σ b n = σ := rfl
        exact mend_i (u := σ) hx hb hr hlocks hS hP d_Mo_run_77 (⟨by rw [e9, if_pos c64], e9.symm⟩)
      · refine lv_iconst (v := 0) hx hb d_Mo_run_67 (by decide) ?_
        refine lv_goto (tgt := 77) hx hb d_Mo_run_68 (by decide) ?_
        have e9 : ruM 0 σ b n = σ := rfl
        exact mend_i (u := σ) hx hb hr hlocks hS hP d_Mo_run_77 (⟨by rw [e9, if_neg c64], e9.symm⟩)
    · refine lv_aload_n hx hb d_Mo_run_46 rfl (lv_at hl 1 rfl) ?_
      refine va_get (D := gD G) (ci := 7) (v := .int (mI σ 1)) (C := R_Mo) (T := F_Mo) (N := 29) hx hb (wl_Mo hT) (fun _ h9 => h9) hown hK hP 0 rfl rfl 27 (by decide) (k_597 hT) (fun _ h9 => h9) rfl d_Mo_run_47 ?_
      refine lv_if_ne (tgt := 60) hx hb d_Mo_run_50 (by decide) (fun c50 => ?_) (fun c50 => ?_)
      · refine lv_aload_n hx hb d_Mo_run_60 rfl (lv_at hl 1 rfl) ?_
        refine va_get (D := gD G) (ci := 7) (v := .int (mI σ 11)) (C := R_Mo) (T := F_Mo) (N := 29) hx hb (wl_Mo hT) (fun _ h9 => h9) hown hK hP 0 rfl rfl 26 (by decide) (k_596 hT) (fun _ h9 => h9) rfl d_Mo_run_61 ?_
        refine lv_if_le (tgt := 71) hx hb d_Mo_run_64 (by decide) (fun c64 => ?_) (fun c64 => ?_)
        · refine lv_aload_n hx hb d_Mo_run_71 rfl (lv_at hl 1 rfl) ?_
          refine va_get (D := gD G) (ci := 7) (v := .int (mI σ 2)) (C := R_Mo) (T := F_Mo) (N := 29) hx hb (wl_Mo hT) (fun _ h9 => h9) hown hK hP 0 rfl rfl 18 (by decide) (k_588 hT) (fun _ h9 => h9) rfl d_Mo_run_72 ?_
          refine lv_iload_n hx hb d_Mo_run_75 rfl (lv_at hl 0 rfl) ?_
          refine lv_isub hx hb d_Mo_run_76 ?_
          have e9 : ruM 0 σ b n = σ := rfl
          exact mend_i (u := σ) hx hb hr hlocks hS hP d_Mo_run_77 (⟨by rw [e9, if_pos c64], e9.symm⟩)
        · refine lv_iconst (v := 0) hx hb d_Mo_run_67 (by decide) ?_
          refine lv_goto (tgt := 77) hx hb d_Mo_run_68 (by decide) ?_
          have e9 : ruM 0 σ b n = σ := rfl
          exact mend_i (u := σ) hx hb hr hlocks hS hP d_Mo_run_77 (⟨by rw [e9, if_neg c64], e9.symm⟩)
      · exact absurd hw (fun h9 => h9.elim c43 (fun h8 => h8 c50))
  | succ f ih =>
    intro σ H locs ls hw hP hS hl
    have hD := g.d (τ := σ)
    refine lv_aload_n hx hb d_Mo_run_36 rfl (lv_at hl 1 rfl) ?_
    refine va_get (D := gD G) (ci := 7) (v := .int (mI σ 2)) (C := R_Mo) (T := F_Mo) (N := 29) hx hb (wl_Mo hT) (fun _ h9 => h9) hown hK hP 0 rfl rfl 18 (by decide) (k_588 hT) (fun _ h9 => h9) rfl d_Mo_run_37 ?_
    refine lv_iload_n hx hb d_Mo_run_40 rfl (lv_at hl 0 rfl) ?_
    refine lv_isub hx hb d_Mo_run_41 ?_
    refine lv_iload_n hx hb d_Mo_run_42 rfl (lv_at hl 2 rfl) ?_
    refine lv_icmp_ge (tgt := 60) hx hb d_Mo_run_43 (by decide) (fun c43 => ?_) (fun c43 => ?_)
    · refine lv_aload_n hx hb d_Mo_run_60 rfl (lv_at hl 1 rfl) ?_
      refine va_get (D := gD G) (ci := 7) (v := .int (mI σ 11)) (C := R_Mo) (T := F_Mo) (N := 29) hx hb (wl_Mo hT) (fun _ h9 => h9) hown hK hP 0 rfl rfl 26 (by decide) (k_596 hT) (fun _ h9 => h9) rfl d_Mo_run_61 ?_
      refine lv_if_le (tgt := 71) hx hb d_Mo_run_64 (by decide) (fun c64 => ?_) (fun c64 => ?_)
      · refine lv_aload_n hx hb d_Mo_run_71 rfl (lv_at hl 1 rfl) ?_
        refine va_get (D := gD G) (ci := 7) (v := .int (mI σ 2)) (C := R_Mo) (T := F_Mo) (N := 29) hx hb (wl_Mo hT) (fun _ h9 => h9) hown hK hP 0 rfl rfl 18 (by decide) (k_588 hT) (fun _ h9 => h9) rfl d_Mo_run_72 ?_
        refine lv_iload_n hx hb d_Mo_run_75 rfl (lv_at hl 0 rfl) ?_
        refine lv_isub hx hb d_Mo_run_76 ?_
        have e9 : ruM (f + 1) σ b n = σ := by simp [ruM, c43]
        exact mend_i (u := σ) hx hb hr hlocks hS hP d_Mo_run_77 (⟨by rw [e9, if_pos c64], e9.symm⟩)
      · refine lv_iconst (v := 0) hx hb d_Mo_run_67 (by decide) ?_
        refine lv_goto (tgt := 77) hx hb d_Mo_run_68 (by decide) ?_
        have e9 : ruM (f + 1) σ b n = σ := by simp [ruM, c43]
        exact mend_i (u := σ) hx hb hr hlocks hS hP d_Mo_run_77 (⟨by rw [e9, if_neg c64], e9.symm⟩)
    · refine lv_aload_n hx hb d_Mo_run_46 rfl (lv_at hl 1 rfl) ?_
      refine va_get (D := gD G) (ci := 7) (v := .int (mI σ 1)) (C := R_Mo) (T := F_Mo) (N := 29) hx hb (wl_Mo hT) (fun _ h9 => h9) hown hK hP 0 rfl rfl 27 (by decide) (k_597 hT) (fun _ h9 => h9) rfl d_Mo_run_47 ?_
      refine lv_if_ne (tgt := 60) hx hb d_Mo_run_50 (by decide) (fun c50 => ?_) (fun c50 => ?_)
      · refine lv_aload_n hx hb d_Mo_run_60 rfl (lv_at hl 1 rfl) ?_
        refine va_get (D := gD G) (ci := 7) (v := .int (mI σ 11)) (C := R_Mo) (T := F_Mo) (N := 29) hx hb (wl_Mo hT) (fun _ h9 => h9) hown hK hP 0 rfl rfl 26 (by decide) (k_596 hT) (fun _ h9 => h9) rfl d_Mo_run_61 ?_
        refine lv_if_le (tgt := 71) hx hb d_Mo_run_64 (by decide) (fun c64 => ?_) (fun c64 => ?_)
        · refine lv_aload_n hx hb d_Mo_run_71 rfl (lv_at hl 1 rfl) ?_
          refine va_get (D := gD G) (ci := 7) (v := .int (mI σ 2)) (C := R_Mo) (T := F_Mo) (N := 29) hx hb (wl_Mo hT) (fun _ h9 => h9) hown hK hP 0 rfl rfl 18 (by decide) (k_588 hT) (fun _ h9 => h9) rfl d_Mo_run_72 ?_
          refine lv_iload_n hx hb d_Mo_run_75 rfl (lv_at hl 0 rfl) ?_
          refine lv_isub hx hb d_Mo_run_76 ?_
          have e9 : ruM (f + 1) σ b n = σ := by simp [ruM, c43, c50]
          exact mend_i (u := σ) hx hb hr hlocks hS hP d_Mo_run_77 (⟨by rw [e9, if_pos c64], e9.symm⟩)
        · refine lv_iconst (v := 0) hx hb d_Mo_run_67 (by decide) ?_
          refine lv_goto (tgt := 77) hx hb d_Mo_run_68 (by decide) ?_
          have e9 : ruM (f + 1) σ b n = σ := by simp [ruM, c43, c50]
          exact mend_i (u := σ) hx hb hr hlocks hS hP d_Mo_run_77 (⟨by rw [e9, if_neg c64], e9.symm⟩)
      · refine lv_aload_n hx hb d_Mo_run_53 rfl (lv_at hl 1 rfl) ?_
        refine cx_V (n := 0) (C := R_Mo) (As := []) (rest := []) ⟨hx, hb, hml, hown, fun _ h9 => nomatch h9⟩ (K_Mo_doOne g σ  hw.1) (k_687 hT) (k_689 hT) (ks_20 hT) (k_690 hT) (k_9 hT) rfl (by decide +kernel) (va_recv hK hP (ci := 7) (q0 := 0) rfl rfl) (hc.at g hS hP) ⟨by decide, by decide⟩ ⟨by decide, by decide⟩ hl.1 (Nat.le_of_ble_eq_true rfl) d_Mo_run_54 (fun _ h9 => h9) hS (fun _ _ _ _ _ _ _ h9 => h9.elim) (fun v t H locs ht9 hRt hz hk hS => ?_)
        obtain ⟨u, rfl, eu, hP⟩ := hRt
        rw [eu, ht9] at hP
        have hD : va_D (gA G) (mw G (mdF σ)) := g.d
        refine W.eq (g2 := F0 m 57 ls []) rfl ?_
        refine lv_goto (tgt := 36) hx hb d_Mo_run_57 (by decide) ?_
        have e9 : ruM (f + 1) σ b n = ruM f (mdF σ) b n := by simp [ruM, c43, c50]
        rw [e9]
        exact ih (mdF σ) H locs ls (hw.2 c43 c50) hP hS (lv_sub hl [0, 1, 2] rfl)
def rnM (σ : MS) (n : Int32) : Int32 × MS := if inF n 1 300 then (if mI σ 1 = 0 then (if mI (ruM (ix n) (bdF σ (inF n 1 300)) (mI σ 2) n) 11 ≤ 0 then mI (ruM (ix n) (bdF σ (inF n 1 300)) (mI σ 2) n) 2 - mI σ 2 else 0, ruM (ix n) (bdF σ (inF n 1 300)) (mI σ 2) n) else (0, tI (bdF σ (inF n 1 300)) 11 2)) else (0, bdF σ (inF n 1 300))
set_option maxHeartbeats 4000000 in
set_option maxRecDepth 100000 in
theorem K_Mo_run {l : Launch} {G : GT} (g : MOK l G) (σ : MS) (n : Int32) (hw : inF n 1 300 = true → mI σ 1 = 0 → MWr (ix n) (bdF σ (inF n 1 300)) (mI σ 2) n) : cx_M l y_Mo_run (.code y_Mo_run b_Mo_run 3 (some .int)) 3 83 (gA G) [.ref (gad G 20), .int n] (Mw G σ) (Mi G (fun r u => r = (rnM σ n).1 ∧ u = (rnM σ n).2)) (Tn) := by
  refine cx_of (by decide +kernel) ?_
  intro p e s m below meth c s₁ B hml ht hc
  have hx := B.exec
  have hb := B.bytes
  have hr := B.returns
  have hown : s.vm.findClass R_Mo = some m.cls := findClass_of_methodNamed B.named
  have hlocks := B.notSynchronized
  have hT := g.tb hc
  have hK := g.k hc
  have hD := g.d (τ := σ)
  have hS : va_S (gA G) s.heap s.heap [] := va_S.rf
  have hP := hc.2.2
  have hl := lv_entry ([.ref (gad G 20), .int n]) (n := 3) (Nat.le_of_ble_eq_true rfl)
  rw [lg_entry_eq]
  generalize (lg_sl ([.ref (gad G 20), .int n]) ++ List.replicate (3 - (lg_sl ([.ref (gad G 20), .int n])).length) Slot.unset).toArray = ls at hl ⊢
  have hl : lv_has ls 3 [(0, .ref (gad G 20)), (1, .int n)] := hl
  refine lv_aload_n hx hb d_Mo_run_0 rfl (lv_at hl 0 rfl) ?_
  refine lv_iload_n hx hb d_Mo_run_1 rfl (lv_at hl 1 rfl) ?_
  refine lv_iconst (v := 1) hx hb d_Mo_run_2 (by decide) ?_
  refine lv_sipush (v := 300) hx hb d_Mo_run_3 (by decide) ?_
  refine cx_S (n := 3) (As := [.int n, .int 1, .int 300]) (rest := [.ref (gad G 20)]) ⟨hx, hb, hml, hown, fun _ h9 => nomatch h9⟩ (K_Mo_in g σ n 1 300 ) (k_666 hT) (k_667 hT) (k_668 hT) (k_9 hT) rfl (by decide +kernel) (hc.at g hS hP) ⟨by decide, by decide⟩ ⟨by decide, by decide⟩ hl.1 (Nat.le_of_ble_eq_true rfl) d_Mo_run_6 (fun _ h9 => h9) hS (fun _ _ _ _ _ _ _ h9 => h9.elim) (fun v t H locs ht9 hRt hz hk hS => ?_)
  obtain ⟨r, u, rfl, ⟨er, eu⟩, hP⟩ := hRt
  subst er
  rw [eu, ht9] at hP
  have hD : va_D (gA G) (mw G σ) := g.d
  refine W.eq (g2 := F0 m 9 ls [.int (b2i (inF n 1 300)), .ref (gad G 20)]) rfl ?_
  refine cx_V (n := 1) (C := R_Mo) (As := [.int (b2i (inF n 1 300))]) (rest := []) ⟨hx, hb, hml, hown, fun _ h9 => nomatch h9⟩ (K_Mo_bad g σ (inF n 1 300)) (k_669 hT) (k_671 hT) (ks_19 hT) (k_672 hT) (k_9 hT) rfl (by decide +kernel) (va_recv hK hP (ci := 7) (q0 := 0) rfl rfl) (hc.at g hS hP) ⟨by decide, by decide⟩ ⟨by decide, by decide⟩ hl.1 (Nat.le_of_ble_eq_true rfl) d_Mo_run_9 (fun _ h9 => h9) hS (fun _ _ _ _ _ _ _ h9 => h9.elim) (fun v t H locs ht9 hRt hz hk hS => ?_)
  obtain ⟨r, u, rfl, ⟨er, eu⟩, hP⟩ := hRt
  subst er
  rw [eu, ht9] at hP
  have hD : va_D (gA G) (mw G (bdF σ (inF n 1 300))) := g.d
  refine W.eq (g2 := F0 m 12 ls [.int (b2i (!(inF n 1 300)))]) rfl ?_
  refine lv_if_eq (tgt := 17) hx hb d_Mo_run_12 (by decide) (fun c12 => ?_) (fun c12 => ?_)
  · have c12 := b2i0 c12
    refine lv_aload_n hx hb d_Mo_run_17 rfl (lv_at hl 0 rfl) ?_
    refine va_get (D := gD G) (ci := 7) (v := .int (mI (bdF σ (inF n 1 300)) 1)) (C := R_Mo) (T := F_Mo) (N := 29) hx hb (wl_Mo hT) (fun _ h9 => h9) hown hK hP 0 rfl rfl 27 (by decide) (k_597 hT) (fun _ h9 => h9) rfl d_Mo_run_18 ?_
    refine lv_if_eq (tgt := 31) hx hb d_Mo_run_21 (by decide) (fun c21 => ?_) (fun c21 => ?_)
    · refine lv_aload_n hx hb d_Mo_run_31 rfl (lv_at hl 0 rfl) ?_
      refine va_get (D := gD G) (ci := 7) (v := .int (mI (bdF σ (inF n 1 300)) 2)) (C := R_Mo) (T := F_Mo) (N := 29) hx hb (wl_Mo hT) (fun _ h9 => h9) hown hK hP 0 rfl rfl 18 (by decide) (k_588 hT) (fun _ h9 => h9) rfl d_Mo_run_32 ?_
      refine lv_istore_n (lv' := [(2, .int (mI (bdF σ (inF n 1 300)) 2)), (0, .ref (gad G 20)), (1, .int n)]) hx hb d_Mo_run_35 rfl hl (by decide) rfl (fun ls hl => ?_)
      refine cx_mono (Mi.mono (fun r u hR => ?_)) (fun _ _ h9 => h9) (L_Mrun (n := n) (b := mI σ 2) ⟨hx, hb, hml, hr, hown, hlocks, ht, g, σ, hc⟩ (ix n) (bdF σ (inF n 1 300)) _ _ ls (hw (by simpa using c12) c21) hP hS (lv_sub hl [0, 1, 2] rfl))
      unfold rnM
      rw [if_pos (by simpa using c12), if_pos (show mI σ 1 = 0 from c21)]
      exact hR
    · refine lv_aload_n hx hb d_Mo_run_24 rfl (lv_at hl 0 rfl) ?_
      refine lv_iconst (v := 2) hx hb d_Mo_run_25 (by decide) ?_
      refine va_put (D := gD G) (ci := 7) (v := .int 2) (ty := .int) (C := R_Mo) (T := F_Mo) (N := 29) hx hb (wl_Mo hT) (fun _ h9 => h9) fy_Mo fy_Mo_ok fn_Mo hown hK hP hD hS 0 rfl rfl 26 (by decide) (k_596 hT) (fun _ h9 => h9) rfl (by decide +kernel) rfl rfl (Nat.le_of_ble_eq_true rfl) d_Mo_run_26 (fun H locs hP hD hS => ?_)
      have hP : va_P (gD G) classes (mw G (tI (bdF σ (inF n 1 300)) 11 2)) H := hP
      have hD : va_D (gA G) (mw G (tI (bdF σ (inF n 1 300)) 11 2)) := g.d
      refine lv_iconst (v := 0) hx hb d_Mo_run_29 (by decide) ?_
      exact mend_i (u := (tI (bdF σ (inF n 1 300)) 11 2)) hx hb hr hlocks hS hP d_Mo_run_30 (⟨by unfold rnM; rw [if_pos (by simpa using c12), if_neg (show ¬ mI σ 1 = 0 from c21)], by unfold rnM; rw [if_pos (by simpa using c12), if_neg (show ¬ mI σ 1 = 0 from c21)]⟩)
  · have c12 := b2i1 c12
    refine lv_iconst (v := 0) hx hb d_Mo_run_15 (by decide) ?_
    exact mend_i (u := (bdF σ (inF n 1 300))) hx hb hr hlocks hS hP d_Mo_run_16 (⟨by unfold rnM; rw [if_neg (by simpa using c12)], by unfold rnM; rw [if_neg (by simpa using c12)]⟩)

