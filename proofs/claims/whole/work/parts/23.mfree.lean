/-! CONTRACTS OF THE REFERENCE: leader, free, move, findHeights -/
section MSch
def TM (σ : MS) (i k : Nat) : Bool := tdM (mq σ i) (mq σ k)
def LM (σ : MS) (i k : Nat) : Int32 := LmQ (mq σ) i k
def ldP (σ : MS) (i : Nat) : Nat → Bool
  | 0 => false
  | n + 1 => if ldP σ i n then true else if mJ σ 6 n ≤ 16 then false else if mdl (mJ σ 10 n) = nI i then true else false
def ldM (σ : MS) (i : Nat) : Bool := if i = 0 then true else if mJ σ 6 (i - 1) = 0 then true else if mJ σ 6 (i - 1) ≤ 16 then ldP σ i 24 else true
theorem ldP_up {σ : MS} {i k : Nat} (h : ldP σ i k = true) : ∀ n, ldP σ i (k + n) = true := by
  intro n
  induction n with
  | zero => exact h
  | succ n ih => show (if ldP σ i (k + n) = true then true else _) = true; rw [if_pos ih]
theorem ldP_of {σ : MS} {i k : Nat} (hk : k < 24) (h1 : ¬ mJ σ 6 k ≤ 16) (h2 : mdl (mJ σ 10 k) = nI i) : ldP σ i 24 = true := by
  have : ldP σ i (k + 1) = true := by
    show (if ldP σ i k = true then true else if mJ σ 6 k ≤ 16 then false else if mdl (mJ σ 10 k) = nI i then true else false) = true
    rw [if_neg h1, if_pos h2, ite_self]
  have := ldP_up this (23 - k)
  rwa [show k + 1 + (23 - k) = 24 by omega] at this
theorem nI_z {i : Nat} (hi : i < 24) : nI i = 0 ↔ i = 0 := by
  have : ∀ i, i < 24 → (nI i = 0 ↔ i = 0) := by decide
  exact this i hi
theorem sub1_in {i : Nat} (hi : i < 24) (h : ¬ nI i = 0) : vp_in (nI i - 1) 24 := by
  have : ∀ i, i < 24 → ¬ nI i = 0 → vp_in (nI i - 1) 24 := by unfold vp_in; decide
  exact this i hi h
theorem sub1_c {i : Nat} (hi : i < 24) (h : ¬ nI i = 0) : (nI i - 1).toNatClampNeg = i - 1 := by
  have : ∀ i, i < 24 → ¬ nI i = 0 → (nI i - 1).toNatClampNeg = i - 1 := by decide
  exact this i hi h
theorem ld_0 {σ : MS} {i : Nat} (h : i = 0) : ldM σ i = true := by unfold ldM; rw [if_pos h]
theorem ld_1 {σ : MS} {i : Nat} (h : ¬ i = 0) (h2 : mJ σ 6 (i - 1) = 0) : ldM σ i = true := by unfold ldM; rw [if_neg h, if_pos h2]
theorem ld_2 {σ : MS} {i : Nat} (h : ¬ i = 0) (h2 : ¬ mJ σ 6 (i - 1) = 0) (h3 : ¬ mJ σ 6 (i - 1) ≤ 16) : ldM σ i = true := by unfold ldM; rw [if_neg h, if_neg h2, if_neg h3]
theorem ld_3 {σ : MS} {i : Nat} (h : ¬ i = 0) (h2 : ¬ mJ σ 6 (i - 1) = 0) (h3 : mJ σ 6 (i - 1) ≤ 16) : ldM σ i = ldP σ i 24 := by unfold ldM; rw [if_neg h, if_neg h2, if_pos h3]
theorem ldP_n1 {σ : MS} {i n : Nat} (h : ldP σ i n = false) (h2 : mJ σ 6 n ≤ 16) : ldP σ i (n + 1) = false := by
  show (if ldP σ i n = true then true else if mJ σ 6 n ≤ 16 then false else if mdl (mJ σ 10 n) = nI i then true else false) = false
  rw [h, if_pos h2]; rfl
theorem ldP_n2 {σ : MS} {i n : Nat} (h : ldP σ i n = false) (h2 : ¬ mJ σ 6 n ≤ 16) (h3 : ¬ mdl (mJ σ 10 n) = nI i) : ldP σ i (n + 1) = false := by
  show (if ldP σ i n = true then true else if mJ σ 6 n ≤ 16 then false else if mdl (mJ σ 10 n) = nI i then true else false) = false
  rw [h, if_neg h2, if_neg h3]; rfl
theorem fr_step {pz : Nat → Int32} {T : Nat → Nat → Bool} {a c j : Nat} (h1 : a ≤ j) (h : frA pz T a c (j - a) = true) (h2 : ¬ pz j = 0 ∨ T j c = false) : frA pz T a c (j + 1 - a) = true := by
  rw [frA_iff] at h ⊢
  intro k hk hz
  by_cases hkj : k = j - a
  · subst hkj
    rw [show a + (j - a) = j by omega] at hz ⊢
    exact h2.elim (fun z => absurd hz z) id
  · exact h k (by omega) hz
theorem fr_no {pz : Nat → Int32} {T : Nat → Nat → Bool} {a c j : Nat} (h1 : a ≤ j) (h2 : j < c) (h3 : pz j = 0) (h4 : T j c = true) : fre pz T a c = false := by
  unfold fre
  split
  · by_cases hf : frA pz T a c (c - a) = true
    · have := (frA_iff _).mp hf (j - a) (by omega)
      rw [show a + (j - a) = j by omega] at this
      rw [h4] at this
      exact absurd (this h3) (by decide)
    · simpa using hf
  · rfl
theorem mq_tJb (τ : MS) (k : Nat) (f : Nat → Int32) (h : 10 < k) : ∀ i j, j < 5 → mq (tJ τ k f) i j = mq τ i j := by
  intro i j hj
  show (if 6 + j = k then f else mJ τ (6 + j)) i = mJ τ (6 + j) i
  rw [if_neg (by omega)]
end MSch
set_option maxHeartbeats 4000000 in
set_option maxRecDepth 100000 in
theorem K_Mo_leader {l : Launch} {G : GT} (g : MOK l G) (σ : MS) {i : Nat} (hi : i < 24) : cx_M l y_Mo_leader (.code y_Mo_leader b_Mo_leader 3 (some .boolean)) 1 20 (gA G) [.ref (gad G 20), .int (nI i)] (Mw G σ) (Mi G (fun r u => r = b2i (ldM σ i) ∧ u = σ)) (Tn) := by
  refine cx_of (by decide +kernel) ?_
  intro p e s m below meth c s₁ B hml ht hc
  have hx := B.exec
  have hb := B.bytes
  have hr := B.returns
  have hown : s.vm.findClass R_Mo = some m.cls := findClass_of_methodNamed B.named
  have hlocks := B.notSynchronized
  have hT := g.tb hc
  have hK := g.k hc
  have hD := g.d (τ := σ)
  have hS : va_S (gA G) s.heap s.heap [] := va_S.rf
  have hP := hc.2.2
  have hl := lv_entry ([.ref (gad G 20), .int (nI i)]) (n := 3) (Nat.le_of_ble_eq_true rfl)
  rw [lg_entry_eq]
  generalize (lg_sl ([.ref (gad G 20), .int (nI i)]) ++ List.replicate (3 - (lg_sl ([.ref (gad G 20), .int (nI i)])).length) Slot.unset).toArray = ls at hl ⊢
  have hl : lv_has ls 3 [(0, .ref (gad G 20)), (1, .int (nI i))] := hl
  refine lv_iload_n hx hb d_Mo_leader_0 rfl (lv_at hl 1 rfl) ?_
  refine lv_if_ne (tgt := 6) hx hb d_Mo_leader_1 (by decide) (fun c1 => ?_) (fun c1 => ?_)
  · have h0 : ¬ i = 0 := fun z => c1 ((nI_z hi).mpr z)
    refine lv_aload_n hx hb d_Mo_leader_6 rfl (lv_at hl 0 rfl) ?_
    refine va_get (D := gD G) (ci := 7) (v := .ref (gad G 21)) (C := R_Mo) (T := F_Mo) (N := 29) hx hb (wl_Mo hT) (fun _ h9 => h9) hown hK hP 0 rfl rfl 0 (by decide) (k_570 hT) (fun _ h9 => h9) rfl d_Mo_leader_7 ?_
    refine lv_iload_n hx hb d_Mo_leader_10 rfl (lv_at hl 1 rfl) ?_
    refine lv_iconst (v := 1) hx hb d_Mo_leader_11 (by decide) ?_
    refine lv_isub hx hb d_Mo_leader_12 ?_
    refine va_iald (f := (mJ σ 6)) hx hb hK hP 1 0 rfl rfl (sub1_in hi c1) d_Mo_leader_13 ?_
    refine lv_if_eq (tgt := 30) hx hb d_Mo_leader_14 (by decide) (fun c14 => ?_) (fun c14 => ?_)
    · refine lv_iconst (v := 1) hx hb d_Mo_leader_30 (by decide) ?_
      exact mend_z (u := σ) hx hb hr hlocks hS hP d_Mo_leader_31 rfl (⟨by rw [ld_1 h0 (by rw [← sub1_c hi c1]; exact c14)]; rfl, rfl⟩)
    · refine lv_aload_n hx hb d_Mo_leader_17 rfl (lv_at hl 0 rfl) ?_
      refine va_get (D := gD G) (ci := 7) (v := .ref (gad G 21)) (C := R_Mo) (T := F_Mo) (N := 29) hx hb (wl_Mo hT) (fun _ h9 => h9) hown hK hP 0 rfl rfl 0 (by decide) (k_570 hT) (fun _ h9 => h9) rfl d_Mo_leader_18 ?_
      refine lv_iload_n hx hb d_Mo_leader_21 rfl (lv_at hl 1 rfl) ?_
      refine lv_iconst (v := 1) hx hb d_Mo_leader_22 (by decide) ?_
      refine lv_isub hx hb d_Mo_leader_23 ?_
      refine va_iald (f := (mJ σ 6)) hx hb hK hP 1 0 rfl rfl (sub1_in hi c1) d_Mo_leader_24 ?_
      refine lv_bipush (v := 16) hx hb d_Mo_leader_25 (by decide) ?_
      refine lv_icmp_le (tgt := 32) hx hb d_Mo_leader_27 (by decide) (fun c27 => ?_) (fun c27 => ?_)
      · refine lv_iconst (v := 0) hx hb d_Mo_leader_32 (by decide) ?_
        refine lv_istore_n (lv' := [(2, .int 0), (0, .ref (gad G 20)), (1, .int (nI i))]) hx hb d_Mo_leader_33 rfl hl (by decide) rfl (fun ls hl => ?_)
        have li2 : ((nI 0) : Int32) = 0 := nI_0
        refine W_for (N := 24) (fun j H locs ls => ldP σ i j = false ∧ va_P (gD G) classes (mw G σ) H ∧ va_S (gA G) s.heap H locs ∧ lv_has ls 3 [(2, .int (nI j)), (0, .ref (gad G 20)), (1, .int (nI i))]) (fun ls => F0 m 34 ls []) (fun j H locs ls hj hJ kj => ?_) (fun H locs ls hJ => ?_) 0 _ _ _ (Nat.zero_le _) ⟨rfl, hP, hS, by rw [li2]; exact lv_sub hl [0, 1, 2] rfl⟩
        · obtain ⟨hej, hP, hS, hl⟩ := hJ
          have hD := g.d (τ := σ)
          have jc : (nI j).toNatClampNeg = j := nI_clamp (by omega)
          refine lv_iload_n hx hb d_Mo_leader_34 rfl (lv_at hl 0 rfl) ?_
          refine lv_bipush (v := 24) hx hb d_Mo_leader_35 (by decide) ?_
          refine lv_icmp_ge (tgt := 72) hx hb d_Mo_leader_37 (by decide) (fun c37 => ?_) (fun c37 => ?_)
          · exact absurd c37 (nI_ge hj (by decide))
          · refine lv_aload_n hx hb d_Mo_leader_40 rfl (lv_at hl 1 rfl) ?_
            refine va_get (D := gD G) (ci := 7) (v := .ref (gad G 21)) (C := R_Mo) (T := F_Mo) (N := 29) hx hb (wl_Mo hT) (fun _ h9 => h9) hown hK hP 0 rfl rfl 0 (by decide) (k_570 hT) (fun _ h9 => h9) rfl d_Mo_leader_41 ?_
            refine lv_iload_n hx hb d_Mo_leader_44 rfl (lv_at hl 0 rfl) ?_
            refine va_iald (f := (mJ σ 6)) hx hb hK hP 1 0 rfl rfl (vp_in_nI hj (by decide)) d_Mo_leader_45 ?_
            refine lv_bipush (v := 16) hx hb d_Mo_leader_46 (by decide) ?_
            refine lv_icmp_le (tgt := 66) hx hb d_Mo_leader_48 (by decide) (fun c48 => ?_) (fun c48 => ?_)
            · refine lv_iinc (v := ((nI j) + 1)) (lv' := [(2, .int ((nI j) + 1)), (0, .ref (gad G 20)), (1, .int (nI i))]) hx hb d_Mo_leader_66 hl (k := 0) rfl rfl (by decide) rfl (fun ls hl => ?_)
              refine lv_goto (tgt := 34) hx hb d_Mo_leader_69 (by decide) ?_
              have lb2 : ((nI (j + 1)) : Int32) = ((nI j) + 1) := (nI_1 _).symm
              exact kj _ _ _ ⟨ldP_n1 hej (by rw [← jc]; exact c48), hP, hS, by rw [lb2]; exact lv_sub hl [0, 1, 2] rfl⟩
            · refine lv_aload_n hx hb d_Mo_leader_51 rfl (lv_at hl 1 rfl) ?_
              refine va_get (D := gD G) (ci := 7) (v := .ref (gad G 25)) (C := R_Mo) (T := F_Mo) (N := 29) hx hb (wl_Mo hT) (fun _ h9 => h9) hown hK hP 0 rfl rfl 4 (by decide) (k_574 hT) (fun _ h9 => h9) rfl d_Mo_leader_52 ?_
              refine lv_iload_n hx hb d_Mo_leader_55 rfl (lv_at hl 0 rfl) ?_
              refine va_iald (f := (mJ σ 10)) hx hb hK hP 5 0 rfl rfl (vp_in_nI hj (by decide)) d_Mo_leader_56 ?_
              refine cx_S (n := 1) (As := [.int ((mJ σ 10) (nI j).toNatClampNeg)]) (rest := []) ⟨hx, hb, hml, hown, fun _ h9 => nomatch h9⟩ (K_Mo_modulo g σ ((mJ σ 10) (nI j).toNatClampNeg) ) (k_740 hT) (k_741 hT) (k_742 hT) (k_9 hT) rfl (by decide +kernel) (hc.at g hS hP) ⟨by decide, by decide⟩ ⟨by decide, by decide⟩ hl.1 (Nat.le_of_ble_eq_true rfl) d_Mo_leader_57 (fun _ h9 => h9) hS (fun _ _ _ _ _ _ _ h9 => h9.elim) (fun v t H locs ht9 hRt hz hk hS => ?_)
              obtain ⟨r, u, rfl, ⟨er, eu⟩, hP⟩ := hRt
              subst er
              rw [eu, ht9] at hP
              have hD : va_D (gA G) (mw G σ) := g.d
              refine W.eq (g2 := F0 m 60 ls [.int (mdl ((mJ σ 10) (nI j).toNatClampNeg))]) rfl ?_
              refine lv_iload_n hx hb d_Mo_leader_60 rfl (lv_at hl 2 rfl) ?_
              refine lv_icmp_ne (tgt := 66) hx hb d_Mo_leader_61 (by decide) (fun c61 => ?_) (fun c61 => ?_)
              · refine lv_iinc (v := ((nI j) + 1)) (lv' := [(2, .int ((nI j) + 1)), (0, .ref (gad G 20)), (1, .int (nI i))]) hx hb d_Mo_leader_66 hl (k := 0) rfl rfl (by decide) rfl (fun ls hl => ?_)
                refine lv_goto (tgt := 34) hx hb d_Mo_leader_69 (by decide) ?_
                have lb2 : ((nI (j + 1)) : Int32) = ((nI j) + 1) := (nI_1 _).symm
                exact kj _ _ _ ⟨ldP_n2 hej (by rw [← jc]; exact c48) (by rw [← jc]; exact c61), hP, hS, by rw [lb2]; exact lv_sub hl [0, 1, 2] rfl⟩
              · refine lv_iconst (v := 1) hx hb d_Mo_leader_64 (by decide) ?_
                exact mend_z (u := σ) hx hb hr hlocks hS hP d_Mo_leader_65 rfl (⟨by rw [ld_3 h0 (by rw [← sub1_c hi c1]; exact c14) (by rw [← sub1_c hi c1]; exact c27), ldP_of hj (by rw [← jc]; exact c48) (by rw [← jc]; exact c61)]; rfl, rfl⟩)
        · obtain ⟨hej, hP, hS, hl⟩ := hJ
          have hD := g.d (τ := σ)
          refine lv_iload_n hx hb d_Mo_leader_34 rfl (lv_at hl 0 rfl) ?_
          refine lv_bipush (v := 24) hx hb d_Mo_leader_35 (by decide) ?_
          refine lv_icmp_ge (tgt := 72) hx hb d_Mo_leader_37 (by decide) (fun c37 => ?_) (fun c37 => ?_)
          · refine lv_iconst (v := 0) hx hb d_Mo_leader_72 (by decide) ?_
            exact mend_z (u := σ) hx hb hr hlocks hS hP d_Mo_leader_73 rfl (⟨by rw [ld_3 h0 (by rw [← sub1_c hi c1]; exact c14) (by rw [← sub1_c hi c1]; exact c27), hej]; rfl, rfl⟩)
          · exact absurd (nI_le (Nat.le_refl _) (by decide)) c37
      · refine lv_iconst (v := 1) hx hb d_Mo_leader_30 (by decide) ?_
        exact mend_z (u := σ) hx hb hr hlocks hS hP d_Mo_leader_31 rfl (⟨by rw [ld_2 h0 (by rw [← sub1_c hi c1]; exact c14) (by rw [← sub1_c hi c1]; exact c27)]; rfl, rfl⟩)
  · refine lv_iconst (v := 1) hx hb d_Mo_leader_4 (by decide) ?_
    exact mend_z (u := σ) hx hb hr hlocks hS hP d_Mo_leader_5 rfl (⟨by rw [ld_0 ((nI_z hi).mp c1)]; rfl, rfl⟩)

set_option maxHeartbeats 4000000 in
set_option maxRecDepth 100000 in
theorem K_Mo_free {l : Launch} {G : GT} (g : MOK l G) (σ : MS) {c0 a : Nat} (hc0 : c0 < 24) (ha : a ≤ c0) : cx_M l y_Mo_free (.code y_Mo_free b_Mo_free 4 (some .boolean)) 4 90 (gA G) [.ref (gad G 20), .int (nI c0), .int (nI a)] (Mw G σ) (Mi G (fun r u => r = b2i (fre (mJ σ 14) (TM σ) a c0) ∧ u = σ)) (Tn) := by
  refine cx_of (by decide +kernel) ?_
  intro p e s m below meth c s₁ B hml ht hc
  have hx := B.exec
  have hb := B.bytes
  have hr := B.returns
  have hown : s.vm.findClass R_Mo = some m.cls := findClass_of_methodNamed B.named
  have hlocks := B.notSynchronized
  have hT := g.tb hc
  have hK := g.k hc
  have hD := g.d (τ := σ)
  have hS : va_S (gA G) s.heap s.heap [] := va_S.rf
  have hP := hc.2.2
  have hl := lv_entry ([.ref (gad G 20), .int (nI c0), .int (nI a)]) (n := 4) (Nat.le_of_ble_eq_true rfl)
  rw [lg_entry_eq]
  generalize (lg_sl ([.ref (gad G 20), .int (nI c0), .int (nI a)]) ++ List.replicate (4 - (lg_sl ([.ref (gad G 20), .int (nI c0), .int (nI a)])).length) Slot.unset).toArray = ls at hl ⊢
  have hl : lv_has ls 4 [(0, .ref (gad G 20)), (1, .int (nI c0)), (2, .int (nI a))] := hl
  have cc : (nI c0).toNatClampNeg = c0 := nI_clamp (by omega)
  have cc2 : ix (nI c0) = c0 := cc
  refine lv_aload_n hx hb d_Mo_free_0 rfl (lv_at hl 0 rfl) ?_
  refine va_get (D := gD G) (ci := 7) (v := .ref (gad G 37)) (C := R_Mo) (T := F_Mo) (N := 29) hx hb (wl_Mo hT) (fun _ h9 => h9) hown hK hP 0 rfl rfl 16 (by decide) (k_586 hT) (fun _ h9 => h9) rfl d_Mo_free_1 ?_
  refine lv_iload_n hx hb d_Mo_free_4 rfl (lv_at hl 1 rfl) ?_
  refine va_zald (f := (mJ σ 14)) hx hb hK hP 17 2 rfl rfl (vp_in_nI (by omega) (by decide)) d_Mo_free_5 ?_
  refine lv_if_eq (tgt := 11) hx hb d_Mo_free_6 (by decide) (fun c6 => ?_) (fun c6 => ?_)
  · refine lv_iload_n hx hb d_Mo_free_11 rfl (lv_at hl 2 rfl) ?_
    refine lv_istore_n (lv' := [(3, .int (nI a)), (0, .ref (gad G 20)), (1, .int (nI c0)), (2, .int (nI a))]) hx hb d_Mo_free_12 rfl hl (by decide) rfl (fun ls hl => ?_)
    refine W_for (N := c0) (fun j H locs ls => (a ≤ j ∧ frA (mJ σ 14) (TM σ) a c0 (j - a) = true) ∧ va_P (gD G) classes (mw G σ) H ∧ va_S (gA G) s.heap H locs ∧ lv_has ls 4 [(3, .int (nI j)), (0, .ref (gad G 20)), (1, .int (nI c0)), (2, .int (nI a))]) (fun ls => F0 m 13 ls []) (fun j H locs ls hj hJ kj => ?_) (fun H locs ls hJ => ?_) a _ _ _ ha ⟨⟨Nat.le_refl _, by rw [Nat.sub_self]; rfl⟩, hP, hS, by exact lv_sub hl [0, 1, 2, 3] rfl⟩
    · obtain ⟨hej, hP, hS, hl⟩ := hJ
      have hD := g.d (τ := σ)
      have jc : (nI j).toNatClampNeg = j := nI_clamp (by omega)
      have jc2 : ix (nI j) = j := jc
      refine lv_iload_n hx hb d_Mo_free_13 rfl (lv_at hl 0 rfl) ?_
      refine lv_iload_n hx hb d_Mo_free_14 rfl (lv_at hl 2 rfl) ?_
      refine lv_icmp_ge (tgt := 44) hx hb d_Mo_free_15 (by decide) (fun c15 => ?_) (fun c15 => ?_)
      · exact absurd c15 (nI_ge hj (by omega))
      · refine lv_aload_n hx hb d_Mo_free_18 rfl (lv_at hl 1 rfl) ?_
        refine va_get (D := gD G) (ci := 7) (v := .ref (gad G 37)) (C := R_Mo) (T := F_Mo) (N := 29) hx hb (wl_Mo hT) (fun _ h9 => h9) hown hK hP 0 rfl rfl 16 (by decide) (k_586 hT) (fun _ h9 => h9) rfl d_Mo_free_19 ?_
        refine lv_iload_n hx hb d_Mo_free_22 rfl (lv_at hl 0 rfl) ?_
        refine va_zald (f := (mJ σ 14)) hx hb hK hP 17 2 rfl rfl (vp_in_nI (by omega) (by decide)) d_Mo_free_23 ?_
        refine lv_if_ne (tgt := 38) hx hb d_Mo_free_24 (by decide) (fun c24 => ?_) (fun c24 => ?_)
        · refine lv_iinc (v := ((nI j) + 1)) (lv' := [(3, .int ((nI j) + 1)), (0, .ref (gad G 20)), (1, .int (nI c0)), (2, .int (nI a))]) hx hb d_Mo_free_38 hl (k := 0) rfl rfl (by decide) rfl (fun ls hl => ?_)
          refine lv_goto (tgt := 13) hx hb d_Mo_free_41 (by decide) ?_
          have lb3 : ((nI (j + 1)) : Int32) = ((nI j) + 1) := (nI_1 _).symm
          exact kj _ _ _ ⟨⟨by omega, fr_step hej.1 hej.2 (Or.inl (by rw [← jc]; exact c24))⟩, hP, hS, by rw [lb3]; exact lv_sub hl [0, 1, 2, 3] rfl⟩
        · refine lv_aload_n hx hb d_Mo_free_27 rfl (lv_at hl 1 rfl) ?_
          refine lv_iload_n hx hb d_Mo_free_28 rfl (lv_at hl 0 rfl) ?_
          refine lv_iload_n hx hb d_Mo_free_29 rfl (lv_at hl 2 rfl) ?_
          refine cx_V (n := 2) (C := R_Mo) (As := [.int (nI j), .int (nI c0)]) (rest := []) ⟨hx, hb, hml, hown, fun _ h9 => nomatch h9⟩ (K_Mo_tied g σ (nI j) (nI c0) (vp_in_nI (by omega) (by decide)) (vp_in_nI (by omega) (by decide))) (k_755 hT) (k_757 hT) (ks_34 hT) (k_758 hT) (k_9 hT) rfl (by decide +kernel) (va_recv hK hP (ci := 7) (q0 := 0) rfl rfl) (hc.at g hS hP) ⟨by decide, by decide⟩ ⟨by decide, by decide⟩ hl.1 (Nat.le_of_ble_eq_true rfl) d_Mo_free_30 (fun _ h9 => h9) hS (fun _ _ _ _ _ _ _ h9 => h9.elim) (fun v t H locs ht9 hRt hz hk hS => ?_)
          obtain ⟨r, u, rfl, ⟨er, eu⟩, hP⟩ := hRt
          subst er
          rw [eu, ht9] at hP
          have hD : va_D (gA G) (mw G σ) := g.d
          refine W.eq (g2 := F0 m 33 ls [.int (b2i (tdM (mq σ (ix (nI j))) (mq σ (ix (nI c0)))))]) rfl ?_
          refine lv_if_eq (tgt := 38) hx hb d_Mo_free_33 (by decide) (fun c33 => ?_) (fun c33 => ?_)
          · have c33 := b2i0 c33
            refine lv_iinc (v := ((nI j) + 1)) (lv' := [(3, .int ((nI j) + 1)), (0, .ref (gad G 20)), (1, .int (nI c0)), (2, .int (nI a))]) hx hb d_Mo_free_38 hl (k := 0) rfl rfl (by decide) rfl (fun ls hl => ?_)
            refine lv_goto (tgt := 13) hx hb d_Mo_free_41 (by decide) ?_
            rw [jc2, cc2] at c33
            have lb3 : ((nI (j + 1)) : Int32) = ((nI j) + 1) := (nI_1 _).symm
            exact kj _ _ _ ⟨⟨by omega, fr_step hej.1 hej.2 (Or.inr c33)⟩, hP, hS, by rw [lb3]; exact lv_sub hl [0, 1, 2, 3] rfl⟩
          · have c33 := b2i1 c33
            refine lv_iconst (v := 0) hx hb d_Mo_free_36 (by decide) ?_
            exact mend_z (u := σ) hx hb hr hlocks hS hP d_Mo_free_37 rfl (⟨by rw [fr_no hej.1 hj (by rw [← jc]; exact c24) (by rw [jc2, cc2] at c33; exact c33)]; rfl, rfl⟩)
    · obtain ⟨hej, hP, hS, hl⟩ := hJ
      have hD := g.d (τ := σ)
      refine lv_iload_n hx hb d_Mo_free_13 rfl (lv_at hl 0 rfl) ?_
      refine lv_iload_n hx hb d_Mo_free_14 rfl (lv_at hl 2 rfl) ?_
      refine lv_icmp_ge (tgt := 44) hx hb d_Mo_free_15 (by decide) (fun c15 => ?_) (fun c15 => ?_)
      · refine lv_iconst (v := 1) hx hb d_Mo_free_44 (by decide) ?_
        exact mend_z (u := σ) hx hb hr hlocks hS hP d_Mo_free_45 rfl (⟨by unfold fre; rw [if_pos (by rw [← cc]; exact c6), hej.2]; rfl, rfl⟩)
      · exact absurd (nI_le (Nat.le_refl _) (by omega)) c15
  · refine lv_iconst (v := 0) hx hb d_Mo_free_9 (by decide) ?_
    exact mend_z (u := σ) hx hb hr hlocks hS hP d_Mo_free_10 rfl (⟨by unfold fre; rw [if_neg (by rw [← cc]; exact c6)]; rfl, rfl⟩)

def mv5 (f : Nat → Int32) (q : Nat → Int32) (k : Nat) : Nat → Int32 := upd (upd (upd (upd (upd f (5 * k) (q 0)) (5 * k + 1) (q 1)) (5 * k + 2) (q 2)) (5 * k + 3) (q 3)) (5 * k + 4) (q 4)
theorem m5_in : ∀ k, k < 24 → (vp_in (nI k * 5) 120 ∧ vp_in (nI k * 5 + 1) 120 ∧ vp_in (nI k * 5 + 2) 120 ∧ vp_in (nI k * 5 + 3) 120 ∧ vp_in (nI k * 5 + 4) 120) := by unfold vp_in; decide
theorem m5_c : ∀ k, k < 24 → ((nI k * 5).toNatClampNeg = 5 * k ∧ (nI k * 5 + 1).toNatClampNeg = 5 * k + 1 ∧ (nI k * 5 + 2).toNatClampNeg = 5 * k + 2 ∧ (nI k * 5 + 3).toNatClampNeg = 5 * k + 3 ∧ (nI k * 5 + 4).toNatClampNeg = 5 * k + 4) := by decide
theorem mv5_st {σ : MS} {f0 f1 f2 f3 f4 : Nat → Int32} {h : Nat → Int32} (h4 : f4 = h) : tJ (tJ (tJ (tJ (tJ σ 13 f0) 13 f1) 13 f2) 13 f3) 13 f4 = tJ σ 13 h := by rw [tJ_tJ, tJ_tJ, tJ_tJ, tJ_tJ, h4]
set_option maxHeartbeats 4000000 in
set_option maxRecDepth 100000 in
theorem K_Mo_move {l : Launch} {G : GT} (g : MOK l G) (σ : MS) {k i : Nat} (hk : k < 24) (hi : i < 24) : cx_M l y_Mo_move (.code y_Mo_move b_Mo_move 3 none) 0 0 (gA G) [.ref (gad G 20), .int (nI k), .int (nI i)] (Mw G σ) (Mv G (fun u => u = tJ σ 13 (mv5 (mJ σ 13) (mq σ i) k))) (Tn) := by
  refine cx_of (by decide +kernel) ?_
  intro p e s m below meth c s₁ B hml ht hc
  have hx := B.exec
  have hb := B.bytes
  have hr := B.returns
  have hown : s.vm.findClass R_Mo = some m.cls := findClass_of_methodNamed B.named
  have hlocks := B.notSynchronized
  have hT := g.tb hc
  have hK := g.k hc
  have hD := g.d (τ := σ)
  have hS : va_S (gA G) s.heap s.heap [] := va_S.rf
  have hP := hc.2.2
  have hl := lv_entry ([.ref (gad G 20), .int (nI k), .int (nI i)]) (n := 3) (Nat.le_of_ble_eq_true rfl)
  rw [lg_entry_eq]
  generalize (lg_sl ([.ref (gad G 20), .int (nI k), .int (nI i)]) ++ List.replicate (3 - (lg_sl ([.ref (gad G 20), .int (nI k), .int (nI i)])).length) Slot.unset).toArray = ls at hl ⊢
  have hl : lv_has ls 3 [(0, .ref (gad G 20)), (1, .int (nI k)), (2, .int (nI i))] := hl
  refine lv_aload_n hx hb d_Mo_move_0 rfl (lv_at hl 0 rfl) ?_
  refine va_get (D := gD G) (ci := 7) (v := .ref (gad G 36)) (C := R_Mo) (T := F_Mo) (N := 29) hx hb (wl_Mo hT) (fun _ h9 => h9) hown hK hP 0 rfl rfl 15 (by decide) (k_585 hT) (fun _ h9 => h9) rfl d_Mo_move_1 ?_
  refine lv_iload_n hx hb d_Mo_move_4 rfl (lv_at hl 1 rfl) ?_
  refine lv_iconst (v := 5) hx hb d_Mo_move_5 (by decide) ?_
  refine lv_imul hx hb d_Mo_move_6 ?_
  refine lv_aload_n hx hb d_Mo_move_7 rfl (lv_at hl 0 rfl) ?_
  refine va_get (D := gD G) (ci := 7) (v := .ref (gad G 21)) (C := R_Mo) (T := F_Mo) (N := 29) hx hb (wl_Mo hT) (fun _ h9 => h9) hown hK hP 0 rfl rfl 0 (by decide) (k_570 hT) (fun _ h9 => h9) rfl d_Mo_move_8 ?_
  refine lv_iload_n hx hb d_Mo_move_11 rfl (lv_at hl 2 rfl) ?_
  refine va_iald (f := (mJ σ 6)) hx hb hK hP 1 0 rfl rfl (vp_in_nI hi (by decide)) d_Mo_move_12 ?_
  refine va_iast (f := (mJ σ 13)) hx hb hK hP hD hS 16 0 rfl rfl ((m5_in k hk).1) d_Mo_move_13 (fun H locs hP hD hS => ?_)
  have hP : va_P (gD G) classes (mw G (tJ σ 13 (upd (mJ σ 13) ((nI k) * 5).toNatClampNeg ((mJ σ 6) (nI i).toNatClampNeg)))) H := by have h9 := hP; rw [mwS_J13] at h9; exact h9
  have hD : va_D (gA G) (mw G (tJ σ 13 (upd (mJ σ 13) ((nI k) * 5).toNatClampNeg ((mJ σ 6) (nI i).toNatClampNeg)))) := g.d
  refine lv_aload_n hx hb d_Mo_move_14 rfl (lv_at hl 0 rfl) ?_
  refine va_get (D := gD G) (ci := 7) (v := .ref (gad G 36)) (C := R_Mo) (T := F_Mo) (N := 29) hx hb (wl_Mo hT) (fun _ h9 => h9) hown hK hP 0 rfl rfl 15 (by decide) (k_585 hT) (fun _ h9 => h9) rfl d_Mo_move_15 ?_
  refine lv_iload_n hx hb d_Mo_move_18 rfl (lv_at hl 1 rfl) ?_
  refine lv_iconst (v := 5) hx hb d_Mo_move_19 (by decide) ?_
  refine lv_imul hx hb d_Mo_move_20 ?_
  refine lv_iconst (v := 1) hx hb d_Mo_move_21 (by decide) ?_
  refine lv_iadd hx hb d_Mo_move_22 ?_
  refine lv_aload_n hx hb d_Mo_move_23 rfl (lv_at hl 0 rfl) ?_
  refine va_get (D := gD G) (ci := 7) (v := .ref (gad G 22)) (C := R_Mo) (T := F_Mo) (N := 29) hx hb (wl_Mo hT) (fun _ h9 => h9) hown hK hP 0 rfl rfl 1 (by decide) (k_571 hT) (fun _ h9 => h9) rfl d_Mo_move_24 ?_
  refine lv_iload_n hx hb d_Mo_move_27 rfl (lv_at hl 2 rfl) ?_
  refine va_iald (f := (mJ σ 7)) hx hb hK hP 2 0 rfl rfl (vp_in_nI hi (by decide)) d_Mo_move_28 ?_
  refine va_iast (f := (upd (mJ σ 13) ((nI k) * 5).toNatClampNeg ((mJ σ 6) (nI i).toNatClampNeg))) hx hb hK hP hD hS 16 0 rfl rfl ((m5_in k hk).2.1) d_Mo_move_29 (fun H locs hP hD hS => ?_)
  have hP : va_P (gD G) classes (mw G (tJ (tJ σ 13 (upd (mJ σ 13) ((nI k) * 5).toNatClampNeg ((mJ σ 6) (nI i).toNatClampNeg))) 13 (upd (upd (mJ σ 13) ((nI k) * 5).toNatClampNeg ((mJ σ 6) (nI i).toNatClampNeg)) (((nI k) * 5) + 1).toNatClampNeg ((mJ σ 7) (nI i).toNatClampNeg)))) H := by have h9 := hP; rw [mwS_J13] at h9; exact h9
  have hD : va_D (gA G) (mw G (tJ (tJ σ 13 (upd (mJ σ 13) ((nI k) * 5).toNatClampNeg ((mJ σ 6) (nI i).toNatClampNeg))) 13 (upd (upd (mJ σ 13) ((nI k) * 5).toNatClampNeg ((mJ σ 6) (nI i).toNatClampNeg)) (((nI k) * 5) + 1).toNatClampNeg ((mJ σ 7) (nI i).toNatClampNeg)))) := g.d
  refine lv_aload_n hx hb d_Mo_move_30 rfl (lv_at hl 0 rfl) ?_
  refine va_get (D := gD G) (ci := 7) (v := .ref (gad G 36)) (C := R_Mo) (T := F_Mo) (N := 29) hx hb (wl_Mo hT) (fun _ h9 => h9) hown hK hP 0 rfl rfl 15 (by decide) (k_585 hT) (fun _ h9 => h9) rfl d_Mo_move_31 ?_
  refine lv_iload_n hx hb d_Mo_move_34 rfl (lv_at hl 1 rfl) ?_
  refine lv_iconst (v := 5) hx hb d_Mo_move_35 (by decide) ?_
  refine lv_imul hx hb d_Mo_move_36 ?_
  refine lv_iconst (v := 2) hx hb d_Mo_move_37 (by decide) ?_
  refine lv_iadd hx hb d_Mo_move_38 ?_
  refine lv_aload_n hx hb d_Mo_move_39 rfl (lv_at hl 0 rfl) ?_
  refine va_get (D := gD G) (ci := 7) (v := .ref (gad G 23)) (C := R_Mo) (T := F_Mo) (N := 29) hx hb (wl_Mo hT) (fun _ h9 => h9) hown hK hP 0 rfl rfl 2 (by decide) (k_572 hT) (fun _ h9 => h9) rfl d_Mo_move_40 ?_
  refine lv_iload_n hx hb d_Mo_move_43 rfl (lv_at hl 2 rfl) ?_
  refine va_iald (f := (mJ σ 8)) hx hb hK hP 3 0 rfl rfl (vp_in_nI hi (by decide)) d_Mo_move_44 ?_
  refine va_iast (f := (upd (upd (mJ σ 13) ((nI k) * 5).toNatClampNeg ((mJ σ 6) (nI i).toNatClampNeg)) (((nI k) * 5) + 1).toNatClampNeg ((mJ σ 7) (nI i).toNatClampNeg))) hx hb hK hP hD hS 16 0 rfl rfl ((m5_in k hk).2.2.1) d_Mo_move_45 (fun H locs hP hD hS => ?_)
  have hP : va_P (gD G) classes (mw G (tJ (tJ (tJ σ 13 (upd (mJ σ 13) ((nI k) * 5).toNatClampNeg ((mJ σ 6) (nI i).toNatClampNeg))) 13 (upd (upd (mJ σ 13) ((nI k) * 5).toNatClampNeg ((mJ σ 6) (nI i).toNatClampNeg)) (((nI k) * 5) + 1).toNatClampNeg ((mJ σ 7) (nI i).toNatClampNeg))) 13 (upd (upd (upd (mJ σ 13) ((nI k) * 5).toNatClampNeg ((mJ σ 6) (nI i).toNatClampNeg)) (((nI k) * 5) + 1).toNatClampNeg ((mJ σ 7) (nI i).toNatClampNeg)) (((nI k) * 5) + 2).toNatClampNeg ((mJ σ 8) (nI i).toNatClampNeg)))) H := by have h9 := hP; rw [mwS_J13] at h9; exact h9
  have hD : va_D (gA G) (mw G (tJ (tJ (tJ σ 13 (upd (mJ σ 13) ((nI k) * 5).toNatClampNeg ((mJ σ 6) (nI i).toNatClampNeg))) 13 (upd (upd (mJ σ 13) ((nI k) * 5).toNatClampNeg ((mJ σ 6) (nI i).toNatClampNeg)) (((nI k) * 5) + 1).toNatClampNeg ((mJ σ 7) (nI i).toNatClampNeg))) 13 (upd (upd (upd (mJ σ 13) ((nI k) * 5).toNatClampNeg ((mJ σ 6) (nI i).toNatClampNeg)) (((nI k) * 5) + 1).toNatClampNeg ((mJ σ 7) (nI i).toNatClampNeg)) (((nI k) * 5) + 2).toNatClampNeg ((mJ σ 8) (nI i).toNatClampNeg)))) := g.d
  refine lv_aload_n hx hb d_Mo_move_46 rfl (lv_at hl 0 rfl) ?_
  refine va_get (D := gD G) (ci := 7) (v := .ref (gad G 36)) (C := R_Mo) (T := F_Mo) (N := 29) hx hb (wl_Mo hT) (fun _ h9 => h9) hown hK hP 0 rfl rfl 15 (by decide) (k_585 hT) (fun _ h9 => h9) rfl d_Mo_move_47 ?_
  refine lv_iload_n hx hb d_Mo_move_50 rfl (lv_at hl 1 rfl) ?_
  refine lv_iconst (v := 5) hx hb d_Mo_move_51 (by decide) ?_
  refine lv_imul hx hb d_Mo_move_52 ?_
  refine lv_iconst (v := 3) hx hb d_Mo_move_53 (by decide) ?_
  refine lv_iadd hx hb d_Mo_move_54 ?_
  refine lv_aload_n hx hb d_Mo_move_55 rfl (lv_at hl 0 rfl) ?_
  refine va_get (D := gD G) (ci := 7) (v := .ref (gad G 24)) (C := R_Mo) (T := F_Mo) (N := 29) hx hb (wl_Mo hT) (fun _ h9 => h9) hown hK hP 0 rfl rfl 3 (by decide) (k_573 hT) (fun _ h9 => h9) rfl d_Mo_move_56 ?_
  refine lv_iload_n hx hb d_Mo_move_59 rfl (lv_at hl 2 rfl) ?_
  refine va_iald (f := (mJ σ 9)) hx hb hK hP 4 0 rfl rfl (vp_in_nI hi (by decide)) d_Mo_move_60 ?_
  refine va_iast (f := (upd (upd (upd (mJ σ 13) ((nI k) * 5).toNatClampNeg ((mJ σ 6) (nI i).toNatClampNeg)) (((nI k) * 5) + 1).toNatClampNeg ((mJ σ 7) (nI i).toNatClampNeg)) (((nI k) * 5) + 2).toNatClampNeg ((mJ σ 8) (nI i).toNatClampNeg))) hx hb hK hP hD hS 16 0 rfl rfl ((m5_in k hk).2.2.2.1) d_Mo_move_61 (fun H locs hP hD hS => ?_)
  have hP : va_P (gD G) classes (mw G (tJ (tJ (tJ (tJ σ 13 (upd (mJ σ 13) ((nI k) * 5).toNatClampNeg ((mJ σ 6) (nI i).toNatClampNeg))) 13 (upd (upd (mJ σ 13) ((nI k) * 5).toNatClampNeg ((mJ σ 6) (nI i).toNatClampNeg)) (((nI k) * 5) + 1).toNatClampNeg ((mJ σ 7) (nI i).toNatClampNeg))) 13 (upd (upd (upd (mJ σ 13) ((nI k) * 5).toNatClampNeg ((mJ σ 6) (nI i).toNatClampNeg)) (((nI k) * 5) + 1).toNatClampNeg ((mJ σ 7) (nI i).toNatClampNeg)) (((nI k) * 5) + 2).toNatClampNeg ((mJ σ 8) (nI i).toNatClampNeg))) 13 (upd (upd (upd (upd (mJ σ 13) ((nI k) * 5).toNatClampNeg ((mJ σ 6) (nI i).toNatClampNeg)) (((nI k) * 5) + 1).toNatClampNeg ((mJ σ 7) (nI i).toNatClampNeg)) (((nI k) * 5) + 2).toNatClampNeg ((mJ σ 8) (nI i).toNatClampNeg)) (((nI k) * 5) + 3).toNatClampNeg ((mJ σ 9) (nI i).toNatClampNeg)))) H := by have h9 := hP; rw [mwS_J13] at h9; exact h9
  have hD : va_D (gA G) (mw G (tJ (tJ (tJ (tJ σ 13 (upd (mJ σ 13) ((nI k) * 5).toNatClampNeg ((mJ σ 6) (nI i).toNatClampNeg))) 13 (upd (upd (mJ σ 13) ((nI k) * 5).toNatClampNeg ((mJ σ 6) (nI i).toNatClampNeg)) (((nI k) * 5) + 1).toNatClampNeg ((mJ σ 7) (nI i).toNatClampNeg))) 13 (upd (upd (upd (mJ σ 13) ((nI k) * 5).toNatClampNeg ((mJ σ 6) (nI i).toNatClampNeg)) (((nI k) * 5) + 1).toNatClampNeg ((mJ σ 7) (nI i).toNatClampNeg)) (((nI k) * 5) + 2).toNatClampNeg ((mJ σ 8) (nI i).toNatClampNeg))) 13 (upd (upd (upd (upd (mJ σ 13) ((nI k) * 5).toNatClampNeg ((mJ σ 6) (nI i).toNatClampNeg)) (((nI k) * 5) + 1).toNatClampNeg ((mJ σ 7) (nI i).toNatClampNeg)) (((nI k) * 5) + 2).toNatClampNeg ((mJ σ 8) (nI i).toNatClampNeg)) (((nI k) * 5) + 3).toNatClampNeg ((mJ σ 9) (nI i).toNatClampNeg)))) := g.d
  refine lv_aload_n hx hb d_Mo_move_62 rfl (lv_at hl 0 rfl) ?_
  refine va_get (D := gD G) (ci := 7) (v := .ref (gad G 36)) (C := R_Mo) (T := F_Mo) (N := 29) hx hb (wl_Mo hT) (fun _ h9 => h9) hown hK hP 0 rfl rfl 15 (by decide) (k_585 hT) (fun _ h9 => h9) rfl d_Mo_move_63 ?_
  refine lv_iload_n hx hb d_Mo_move_66 rfl (lv_at hl 1 rfl) ?_
  refine lv_iconst (v := 5) hx hb d_Mo_move_67 (by decide) ?_
  refine lv_imul hx hb d_Mo_move_68 ?_
  refine lv_iconst (v := 4) hx hb d_Mo_move_69 (by decide) ?_
  refine lv_iadd hx hb d_Mo_move_70 ?_
  refine lv_aload_n hx hb d_Mo_move_71 rfl (lv_at hl 0 rfl) ?_
  refine va_get (D := gD G) (ci := 7) (v := .ref (gad G 25)) (C := R_Mo) (T := F_Mo) (N := 29) hx hb (wl_Mo hT) (fun _ h9 => h9) hown hK hP 0 rfl rfl 4 (by decide) (k_574 hT) (fun _ h9 => h9) rfl d_Mo_move_72 ?_
  refine lv_iload_n hx hb d_Mo_move_75 rfl (lv_at hl 2 rfl) ?_
  refine va_iald (f := (mJ σ 10)) hx hb hK hP 5 0 rfl rfl (vp_in_nI hi (by decide)) d_Mo_move_76 ?_
  refine va_iast (f := (upd (upd (upd (upd (mJ σ 13) ((nI k) * 5).toNatClampNeg ((mJ σ 6) (nI i).toNatClampNeg)) (((nI k) * 5) + 1).toNatClampNeg ((mJ σ 7) (nI i).toNatClampNeg)) (((nI k) * 5) + 2).toNatClampNeg ((mJ σ 8) (nI i).toNatClampNeg)) (((nI k) * 5) + 3).toNatClampNeg ((mJ σ 9) (nI i).toNatClampNeg))) hx hb hK hP hD hS 16 0 rfl rfl ((m5_in k hk).2.2.2.2) d_Mo_move_77 (fun H locs hP hD hS => ?_)
  have hP : va_P (gD G) classes (mw G (tJ (tJ (tJ (tJ (tJ σ 13 (upd (mJ σ 13) ((nI k) * 5).toNatClampNeg ((mJ σ 6) (nI i).toNatClampNeg))) 13 (upd (upd (mJ σ 13) ((nI k) * 5).toNatClampNeg ((mJ σ 6) (nI i).toNatClampNeg)) (((nI k) * 5) + 1).toNatClampNeg ((mJ σ 7) (nI i).toNatClampNeg))) 13 (upd (upd (upd (mJ σ 13) ((nI k) * 5).toNatClampNeg ((mJ σ 6) (nI i).toNatClampNeg)) (((nI k) * 5) + 1).toNatClampNeg ((mJ σ 7) (nI i).toNatClampNeg)) (((nI k) * 5) + 2).toNatClampNeg ((mJ σ 8) (nI i).toNatClampNeg))) 13 (upd (upd (upd (upd (mJ σ 13) ((nI k) * 5).toNatClampNeg ((mJ σ 6) (nI i).toNatClampNeg)) (((nI k) * 5) + 1).toNatClampNeg ((mJ σ 7) (nI i).toNatClampNeg)) (((nI k) * 5) + 2).toNatClampNeg ((mJ σ 8) (nI i).toNatClampNeg)) (((nI k) * 5) + 3).toNatClampNeg ((mJ σ 9) (nI i).toNatClampNeg))) 13 (upd (upd (upd (upd (upd (mJ σ 13) ((nI k) * 5).toNatClampNeg ((mJ σ 6) (nI i).toNatClampNeg)) (((nI k) * 5) + 1).toNatClampNeg ((mJ σ 7) (nI i).toNatClampNeg)) (((nI k) * 5) + 2).toNatClampNeg ((mJ σ 8) (nI i).toNatClampNeg)) (((nI k) * 5) + 3).toNatClampNeg ((mJ σ 9) (nI i).toNatClampNeg)) (((nI k) * 5) + 4).toNatClampNeg ((mJ σ 10) (nI i).toNatClampNeg)))) H := by have h9 := hP; rw [mwS_J13] at h9; exact h9
  have hD : va_D (gA G) (mw G (tJ (tJ (tJ (tJ (tJ σ 13 (upd (mJ σ 13) ((nI k) * 5).toNatClampNeg ((mJ σ 6) (nI i).toNatClampNeg))) 13 (upd (upd (mJ σ 13) ((nI k) * 5).toNatClampNeg ((mJ σ 6) (nI i).toNatClampNeg)) (((nI k) * 5) + 1).toNatClampNeg ((mJ σ 7) (nI i).toNatClampNeg))) 13 (upd (upd (upd (mJ σ 13) ((nI k) * 5).toNatClampNeg ((mJ σ 6) (nI i).toNatClampNeg)) (((nI k) * 5) + 1).toNatClampNeg ((mJ σ 7) (nI i).toNatClampNeg)) (((nI k) * 5) + 2).toNatClampNeg ((mJ σ 8) (nI i).toNatClampNeg))) 13 (upd (upd (upd (upd (mJ σ 13) ((nI k) * 5).toNatClampNeg ((mJ σ 6) (nI i).toNatClampNeg)) (((nI k) * 5) + 1).toNatClampNeg ((mJ σ 7) (nI i).toNatClampNeg)) (((nI k) * 5) + 2).toNatClampNeg ((mJ σ 8) (nI i).toNatClampNeg)) (((nI k) * 5) + 3).toNatClampNeg ((mJ σ 9) (nI i).toNatClampNeg))) 13 (upd (upd (upd (upd (upd (mJ σ 13) ((nI k) * 5).toNatClampNeg ((mJ σ 6) (nI i).toNatClampNeg)) (((nI k) * 5) + 1).toNatClampNeg ((mJ σ 7) (nI i).toNatClampNeg)) (((nI k) * 5) + 2).toNatClampNeg ((mJ σ 8) (nI i).toNatClampNeg)) (((nI k) * 5) + 3).toNatClampNeg ((mJ σ 9) (nI i).toNatClampNeg)) (((nI k) * 5) + 4).toNatClampNeg ((mJ σ 10) (nI i).toNatClampNeg)))) := g.d
  exact mend_v (u := (tJ (tJ (tJ (tJ (tJ σ 13 (upd (mJ σ 13) ((nI k) * 5).toNatClampNeg ((mJ σ 6) (nI i).toNatClampNeg))) 13 (upd (upd (mJ σ 13) ((nI k) * 5).toNatClampNeg ((mJ σ 6) (nI i).toNatClampNeg)) (((nI k) * 5) + 1).toNatClampNeg ((mJ σ 7) (nI i).toNatClampNeg))) 13 (upd (upd (upd (mJ σ 13) ((nI k) * 5).toNatClampNeg ((mJ σ 6) (nI i).toNatClampNeg)) (((nI k) * 5) + 1).toNatClampNeg ((mJ σ 7) (nI i).toNatClampNeg)) (((nI k) * 5) + 2).toNatClampNeg ((mJ σ 8) (nI i).toNatClampNeg))) 13 (upd (upd (upd (upd (mJ σ 13) ((nI k) * 5).toNatClampNeg ((mJ σ 6) (nI i).toNatClampNeg)) (((nI k) * 5) + 1).toNatClampNeg ((mJ σ 7) (nI i).toNatClampNeg)) (((nI k) * 5) + 2).toNatClampNeg ((mJ σ 8) (nI i).toNatClampNeg)) (((nI k) * 5) + 3).toNatClampNeg ((mJ σ 9) (nI i).toNatClampNeg))) 13 (upd (upd (upd (upd (upd (mJ σ 13) ((nI k) * 5).toNatClampNeg ((mJ σ 6) (nI i).toNatClampNeg)) (((nI k) * 5) + 1).toNatClampNeg ((mJ σ 7) (nI i).toNatClampNeg)) (((nI k) * 5) + 2).toNatClampNeg ((mJ σ 8) (nI i).toNatClampNeg)) (((nI k) * 5) + 3).toNatClampNeg ((mJ σ 9) (nI i).toNatClampNeg)) (((nI k) * 5) + 4).toNatClampNeg ((mJ σ 10) (nI i).toNatClampNeg)))) hx hb hr hlocks hS hP d_Mo_move_78 (mv5_st (by unfold mv5 mq; rw [(m5_c k hk).1, (m5_c k hk).2.1, (m5_c k hk).2.2.1, (m5_c k hk).2.2.2.1, (m5_c k hk).2.2.2.2, nI_clamp (show i < 2 ^ 31 by omega)]))

section MFh
theorem lt_max (x y : Int32) : ltF x y = imax x y := by
  unfold ltF imax
  by_cases h : x < y
  · rw [if_pos (Int32.le_of_lt h), if_pos h]
  · rw [if_neg h]
    by_cases h2 : x ≤ y
    · rw [if_pos h2]; exact Int32.le_antisymm (Int32.not_lt.mp h) h2
    · rw [if_neg h2]
def pzO (p : Nat → Int32) (e j : Nat) : Nat → Int32 := fun k => if e - j ≤ k ∧ k < e then 0 else p k
def hsM (σ : MS) (e j : Nat) : MS := tJ (tJ σ 11 (hOut (TM σ) (LM σ) e (mJ σ 11) j)) 14 (pzO (mJ σ 14) e j)
def hiM (σ : MS) (e j i n : Nat) : MS := tJ (tJ σ 11 (hIn (TM σ) (LM σ) i (upd (hOut (TM σ) (LM σ) e (mJ σ 11) j) i 0) n)) 14 (upd (pzO (mJ σ 14) e j) i 0)
theorem hs_0 (σ : MS) (e : Nat) : hsM σ e 0 = σ := by
  have : pzO (mJ σ 14) e 0 = mJ σ 14 := by
    funext k
    unfold pzO
    rw [if_neg (by omega)]
  unfold hsM
  rw [this]
  show tJ (tJ σ 11 (mJ σ 11)) 14 (mJ σ 14) = σ
  rw [tJ_self, tJ_self]
theorem hs_s {σ : MS} {e j i : Nat} (hi : i + 1 + j = e) : hsM σ e (j + 1) = hiM σ e j i (e - (i + 1)) := by
  have e1 : e - 1 - j = i := by omega
  have e2 : e - (i + 1) = j := by omega
  have e3 : pzO (mJ σ 14) e (j + 1) = upd (pzO (mJ σ 14) e j) i 0 := by
    funext k
    unfold upd pzO
    by_cases h : k = i
    · rw [if_pos h, if_pos (by omega)]
    · rw [if_neg h]
      by_cases h2 : e - j ≤ k ∧ k < e
      · rw [if_pos h2, if_pos (by omega)]
      · rw [if_neg h2, if_neg (by omega)]
  unfold hsM hiM
  rw [e3, e2]
  show tJ (tJ σ 11 (hIn (TM σ) (LM σ) (e - 1 - j) (upd (hOut (TM σ) (LM σ) e (mJ σ 11) j) (e - 1 - j) 0) j)) 14 _ = _
  rw [e1]
theorem hi_0 {σ : MS} {e j i ic : Nat} (hc : ic = i) : hiM σ e j i (i + 1 - (i + 1)) = tJ (tJ (hsM σ e j) 11 (upd (mJ (hsM σ e j) 11) ic 0)) 14 (upd (mJ (hsM σ e j) 14) ic 0) := by
  rw [hc, Nat.sub_self]
  have e1 : mJ (hsM σ e j) 11 = hOut (TM σ) (LM σ) e (mJ σ 11) j := rfl
  have e2 : mJ (hsM σ e j) 14 = pzO (mJ σ 14) e j := rfl
  rw [e1, e2]
  unfold hsM hiM
  rw [tJ_comm (tJ σ 11 _) (k := 14) (j := 11) _ _ (by decide), tJ_tJ, tJ_tJ]
  rfl
theorem hi_no {σ : MS} {e j i k : Nat} (hk : i + 1 ≤ k) (ht : TM σ i k = false) : hiM σ e j i (k + 1 - (i + 1)) = hiM σ e j i (k - (i + 1)) := by
  unfold hiM
  rw [show k + 1 - (i + 1) = (k - (i + 1)) + 1 by omega]
  unfold hIn
  rw [show i + 1 + (k - (i + 1)) = k by omega, if_neg (by rw [ht]; decide)]
  cases k - (i + 1) <;> rfl
theorem hi_yes {σ : MS} {e j i k : Nat} (hk : i + 1 ≤ k) (ht : TM σ i k = true) : hiM σ e j i (k + 1 - (i + 1)) = tJ (hiM σ e j i (k - (i + 1))) 11 (upd (mJ (hiM σ e j i (k - (i + 1))) 11) i (ltF (mJ (hiM σ e j i (k - (i + 1))) 11 i) (mJ (hiM σ e j i (k - (i + 1))) 11 k + LM σ i k))) := by
  rw [show k + 1 - (i + 1) = (k - (i + 1)) + 1 by omega]
  have e1 : mJ (hiM σ e j i (k - (i + 1))) 11 = hIn (TM σ) (LM σ) i (upd (hOut (TM σ) (LM σ) e (mJ σ 11) j) i 0) (k - (i + 1)) := rfl
  rw [e1, lt_max]
  generalize hn : k - (i + 1) = n
  have hk2 : k = i + 1 + n := by omega
  subst hk2
  have e2 : hIn (TM σ) (LM σ) i (upd (hOut (TM σ) (LM σ) e (mJ σ 11) j) i 0) (n + 1) = upd (hIn (TM σ) (LM σ) i (upd (hOut (TM σ) (LM σ) e (mJ σ 11) j) i 0) n) i (imax (hIn (TM σ) (LM σ) i (upd (hOut (TM σ) (LM σ) e (mJ σ 11) j) i 0) n i) (hIn (TM σ) (LM σ) i (upd (hOut (TM σ) (LM σ) e (mJ σ 11) j) i 0) n (i + 1 + n) + LM σ i (i + 1 + n))) := if_pos ht
  unfold hiM
  rw [e2, tJ_comm (tJ σ 11 _) (k := 14) (j := 11) _ _ (by decide), tJ_tJ]
theorem dI_eq {e i j : Nat} (hi : i + 1 + j = e) (he : e ≤ 24) : nI e - 1 - nI j = nI i := by
  have : ∀ i, i < 24 → ∀ j, j < 24 → nI (i + 1 + j) - 1 - nI j = nI i := by decide +kernel
  rw [← hi]
  exact this i (by omega) j (by omega)
theorem dI_lt {a e : Nat} (ha : a ≤ e) (he : e ≤ 24) : nI e - 1 - nI (e - a) < nI a := by
  have : ∀ a, a < 25 → ∀ d, d < 25 → nI (a + d) - 1 - nI d < nI a := by decide +kernel
  have := this a (by omega) (e - a) (by omega)
  rwa [show a + (e - a) = e by omega] at this
theorem dI_dec {e i j : Nat} (hi : i + 1 + j = e) (he : e ≤ 24) : nI e - 1 - nI (j + 1) = nI i + (-1) := by
  have : ∀ i, i < 24 → ∀ j, j < 24 → nI (i + 1 + j) - 1 - nI (j + 1) = nI i + (-1) := by decide +kernel
  rw [← hi]
  exact this i (by omega) j (by omega)
theorem dI_0 (e : Nat) : nI e - 1 - nI 0 = nI e - 1 := by rw [nI_0, Int32.sub_zero]
theorem nI_nl2 {a i : Nat} (h : a ≤ i) (hi : i < 2 ^ 31) : ¬ nI i < nI a := by
  rw [Int32.lt_iff_toInt_lt, nI_toInt hi, nI_toInt (by omega)]
  omega
end MFh
set_option maxHeartbeats 4000000 in
set_option maxRecDepth 100000 in
theorem K_Mo_findHeights {l : Launch} {G : GT} (g : MOK l G) (σ : MS) {a e0 : Nat} (ha : a ≤ e0) (he : e0 ≤ 24) : cx_M l y_Mo_findHeights (.code y_Mo_findHeights b_Mo_findHeights 5 none) 4 90 (gA G) [.ref (gad G 20), .int (nI a), .int (nI e0)] (Mw G σ) (Mv G (fun u => u = hsM σ e0 (e0 - a))) (Tn) := by
  refine cx_of (by decide +kernel) ?_
  intro p e s m below meth c s₁ B hml ht hc
  have hx := B.exec
  have hb := B.bytes
  have hr := B.returns
  have hown : s.vm.findClass R_Mo = some m.cls := findClass_of_methodNamed B.named
  have hlocks := B.notSynchronized
  have hT := g.tb hc
  have hK := g.k hc
  have hD := g.d (τ := σ)
  have hS : va_S (gA G) s.heap s.heap [] := va_S.rf
  have hP := hc.2.2
  have hl := lv_entry ([.ref (gad G 20), .int (nI a), .int (nI e0)]) (n := 5) (Nat.le_of_ble_eq_true rfl)
  rw [lg_entry_eq]
  generalize (lg_sl ([.ref (gad G 20), .int (nI a), .int (nI e0)]) ++ List.replicate (5 - (lg_sl ([.ref (gad G 20), .int (nI a), .int (nI e0)])).length) Slot.unset).toArray = ls at hl ⊢
  have hl : lv_has ls 5 [(0, .ref (gad G 20)), (1, .int (nI a)), (2, .int (nI e0))] := hl
  refine lv_iload_n hx hb d_Mo_findHeights_0 rfl (lv_at hl 2 rfl) ?_
  refine lv_iconst (v := 1) hx hb d_Mo_findHeights_1 (by decide) ?_
  refine lv_isub hx hb d_Mo_findHeights_2 ?_
  refine lv_istore_n (lv' := [(3, .int ((nI e0) - 1)), (0, .ref (gad G 20)), (1, .int (nI a)), (2, .int (nI e0))]) hx hb d_Mo_findHeights_3 rfl hl (by decide) rfl (fun ls hl => ?_)
  have li3 : (((nI e0 - 1) - nI 0) : Int32) = ((nI e0) - 1) := dI_0 e0
  refine W_for (N := (e0 - a)) (fun j H locs ls => va_P (gD G) classes (mw G (hsM σ e0 j)) H ∧ va_S (gA G) s.heap H locs ∧ lv_has ls 5 [(3, .int ((nI e0 - 1) - nI j)), (0, .ref (gad G 20)), (1, .int (nI a)), (2, .int (nI e0))]) (fun ls => F0 m 4 ls []) (fun j H locs ls hj hJ kj => ?_) (fun H locs ls hJ => ?_) 0 _ _ _ (Nat.zero_le _) ⟨by rw [hs_0]; exact hP, hS, by rw [li3]; exact lv_sub hl [0, 1, 2, 3] rfl⟩
  · obtain ⟨hP, hS, hl⟩ := hJ
    have hD := g.d (τ := (hsM σ e0 j))
    obtain ⟨i, hi⟩ : ∃ i, i + 1 + j = e0 := ⟨e0 - 1 - j, by omega⟩
    rw [show nI e0 - 1 - nI j = nI i from dI_eq hi he] at hl
    have ic : (nI i).toNatClampNeg = i := nI_clamp (by omega)
    have ic2 : ix (nI i) = i := ic
    refine lv_iload_n hx hb d_Mo_findHeights_4 rfl (lv_at hl 0 rfl) ?_
    refine lv_iload_n hx hb d_Mo_findHeights_5 rfl (lv_at hl 2 rfl) ?_
    refine lv_icmp_lt (tgt := 105) hx hb d_Mo_findHeights_6 (by decide) (fun c6 => ?_) (fun c6 => ?_)
    · exact absurd c6 (nI_nl2 (by omega) (by omega))
    · refine lv_aload_n hx hb d_Mo_findHeights_9 rfl (lv_at hl 1 rfl) ?_
      refine va_get (D := gD G) (ci := 7) (v := .ref (gad G 34)) (C := R_Mo) (T := F_Mo) (N := 29) hx hb (wl_Mo hT) (fun _ h9 => h9) hown hK hP 0 rfl rfl 13 (by decide) (k_583 hT) (fun _ h9 => h9) rfl d_Mo_findHeights_10 ?_
      refine lv_iload_n hx hb d_Mo_findHeights_13 rfl (lv_at hl 0 rfl) ?_
      refine lv_iconst (v := 0) hx hb d_Mo_findHeights_14 (by decide) ?_
      refine va_iast (f := (mJ (hsM σ e0 j) 11)) hx hb hK hP hD hS 14 0 rfl rfl (vp_in_nI (by omega) (by decide)) d_Mo_findHeights_15 (fun H locs hP hD hS => ?_)
      have hP : va_P (gD G) classes (mw G (tJ (hsM σ e0 j) 11 (upd (mJ (hsM σ e0 j) 11) (nI i).toNatClampNeg 0))) H := by have h9 := hP; rw [mwS_J11] at h9; exact h9
      have hD : va_D (gA G) (mw G (tJ (hsM σ e0 j) 11 (upd (mJ (hsM σ e0 j) 11) (nI i).toNatClampNeg 0))) := g.d
      refine lv_aload_n hx hb d_Mo_findHeights_16 rfl (lv_at hl 1 rfl) ?_
      refine va_get (D := gD G) (ci := 7) (v := .ref (gad G 37)) (C := R_Mo) (T := F_Mo) (N := 29) hx hb (wl_Mo hT) (fun _ h9 => h9) hown hK hP 0 rfl rfl 16 (by decide) (k_586 hT) (fun _ h9 => h9) rfl d_Mo_findHeights_17 ?_
      refine lv_iload_n hx hb d_Mo_findHeights_20 rfl (lv_at hl 0 rfl) ?_
      refine lv_iconst (v := 0) hx hb d_Mo_findHeights_21 (by decide) ?_
      refine va_zast (f := (mJ (hsM σ e0 j) 14)) hx hb hK hP hD hS 17 2 rfl rfl (vp_in_nI (by omega) (by decide)) d_Mo_findHeights_22 (fun H locs hP hD hS => ?_)
      have hP : va_P (gD G) classes (mw G (tJ (tJ (hsM σ e0 j) 11 (upd (mJ (hsM σ e0 j) 11) (nI i).toNatClampNeg 0)) 14 (upd (mJ (hsM σ e0 j) 14) (nI i).toNatClampNeg 0))) H := by have h9 := hP; rw [mwS_J14] at h9; exact h9
      have hD : va_D (gA G) (mw G (tJ (tJ (hsM σ e0 j) 11 (upd (mJ (hsM σ e0 j) 11) (nI i).toNatClampNeg 0)) 14 (upd (mJ (hsM σ e0 j) 14) (nI i).toNatClampNeg 0))) := g.d
      refine lv_iload_n hx hb d_Mo_findHeights_23 rfl (lv_at hl 0 rfl) ?_
      refine lv_iconst (v := 1) hx hb d_Mo_findHeights_24 (by decide) ?_
      refine lv_iadd hx hb d_Mo_findHeights_25 ?_
      refine lv_istore (lv' := [(4, .int ((nI i) + 1)), (3, .int (nI i)), (0, .ref (gad G 20)), (1, .int (nI a)), (2, .int (nI e0))]) hx hb d_Mo_findHeights_26 hl (by decide) rfl (fun ls hl => ?_)
      have li4 : ((nI (i + 1)) : Int32) = ((nI i) + 1) := (nI_1 _).symm
      refine W_for (N := e0) (fun k H locs ls => (i + 1 ≤ k) ∧ va_P (gD G) classes (mw G (hiM σ e0 j i (k - (i + 1)))) H ∧ va_S (gA G) s.heap H locs ∧ lv_has ls 5 [(4, .int (nI k)), (3, .int (nI i)), (0, .ref (gad G 20)), (1, .int (nI a)), (2, .int (nI e0))]) (fun ls => F0 m 28 ls []) (fun k H locs ls hk hJ kk => ?_) (fun H locs ls hJ => ?_) (i + 1) _ _ _ (by omega) ⟨Nat.le_refl _, by rw [hi_0 ic]; exact hP, hS, by rw [li4]; exact lv_sub hl [0, 1, 2, 3, 4] rfl⟩
      · obtain ⟨hek, hP, hS, hl⟩ := hJ
        have hD := g.d (τ := (hiM σ e0 j i (k - (i + 1))))
        have kc : (nI k).toNatClampNeg = k := nI_clamp (by omega)
        have kc2 : ix (nI k) = k := kc
        refine lv_iload hx hb d_Mo_findHeights_28 (lv_at hl 0 rfl) ?_
        refine lv_iload_n hx hb d_Mo_findHeights_30 rfl (lv_at hl 4 rfl) ?_
        refine lv_icmp_ge (tgt := 99) hx hb d_Mo_findHeights_31 (by decide) (fun c31 => ?_) (fun c31 => ?_)
        · exact absurd c31 (nI_ge hk (by omega))
        · refine lv_aload_n hx hb d_Mo_findHeights_34 rfl (lv_at hl 2 rfl) ?_
          refine lv_iload_n hx hb d_Mo_findHeights_35 rfl (lv_at hl 1 rfl) ?_
          refine lv_iload hx hb d_Mo_findHeights_36 (lv_at hl 0 rfl) ?_
          refine cx_V (n := 2) (C := R_Mo) (As := [.int (nI i), .int (nI k)]) (rest := []) ⟨hx, hb, hml, hown, fun _ h9 => nomatch h9⟩ (K_Mo_tied g (hiM σ e0 j i (k - (i + 1))) (nI i) (nI k) (vp_in_nI (by omega) (by decide)) (vp_in_nI (by omega) (by decide))) (k_755 hT) (k_757 hT) (ks_34 hT) (k_758 hT) (k_9 hT) rfl (by decide +kernel) (va_recv hK hP (ci := 7) (q0 := 0) rfl rfl) (hc.at g hS hP) ⟨by decide, by decide⟩ ⟨by decide, by decide⟩ hl.1 (Nat.le_of_ble_eq_true rfl) d_Mo_findHeights_38 (fun _ h9 => h9) hS (fun _ _ _ _ _ _ _ h9 => h9.elim) (fun v t H locs ht9 hRt hz hk hS => ?_)
          obtain ⟨r, u, rfl, ⟨er, eu⟩, hP⟩ := hRt
          subst er
          rw [eu, ht9] at hP
          have hD : va_D (gA G) (mw G (hiM σ e0 j i (k - (i + 1)))) := g.d
          refine W.eq (g2 := F0 m 41 ls [.int (b2i (tdM (mq (hiM σ e0 j i (k - (i + 1))) (ix (nI i))) (mq (hiM σ e0 j i (k - (i + 1))) (ix (nI k)))))]) rfl ?_
          refine lv_if_ne (tgt := 47) hx hb d_Mo_findHeights_41 (by decide) (fun c41 => ?_) (fun c41 => ?_)
          · have c41 := b2i1 c41
            refine lv_aload_n hx hb d_Mo_findHeights_47 rfl (lv_at hl 2 rfl) ?_
            refine va_get (D := gD G) (ci := 7) (v := .ref (gad G 34)) (C := R_Mo) (T := F_Mo) (N := 29) hx hb (wl_Mo hT) (fun _ h9 => h9) hown hK hP 0 rfl rfl 13 (by decide) (k_583 hT) (fun _ h9 => h9) rfl d_Mo_findHeights_48 ?_
            refine lv_iload_n hx hb d_Mo_findHeights_51 rfl (lv_at hl 1 rfl) ?_
            refine lv_aload_n hx hb d_Mo_findHeights_52 rfl (lv_at hl 2 rfl) ?_
            refine va_get (D := gD G) (ci := 7) (v := .ref (gad G 34)) (C := R_Mo) (T := F_Mo) (N := 29) hx hb (wl_Mo hT) (fun _ h9 => h9) hown hK hP 0 rfl rfl 13 (by decide) (k_583 hT) (fun _ h9 => h9) rfl d_Mo_findHeights_53 ?_
            refine lv_iload_n hx hb d_Mo_findHeights_56 rfl (lv_at hl 1 rfl) ?_
            refine va_iald (f := (mJ (hiM σ e0 j i (k - (i + 1))) 11)) hx hb hK hP 14 0 rfl rfl (vp_in_nI (by omega) (by decide)) d_Mo_findHeights_57 ?_
            refine lv_aload_n hx hb d_Mo_findHeights_58 rfl (lv_at hl 2 rfl) ?_
            refine va_get (D := gD G) (ci := 7) (v := .ref (gad G 34)) (C := R_Mo) (T := F_Mo) (N := 29) hx hb (wl_Mo hT) (fun _ h9 => h9) hown hK hP 0 rfl rfl 13 (by decide) (k_583 hT) (fun _ h9 => h9) rfl d_Mo_findHeights_59 ?_
            refine lv_iload hx hb d_Mo_findHeights_62 (lv_at hl 0 rfl) ?_
            refine va_iald (f := (mJ (hiM σ e0 j i (k - (i + 1))) 11)) hx hb hK hP 14 0 rfl rfl (vp_in_nI (by omega) (by decide)) d_Mo_findHeights_64 ?_
            refine lv_aload_n hx hb d_Mo_findHeights_65 rfl (lv_at hl 2 rfl) ?_
            refine lv_iload hx hb d_Mo_findHeights_66 (lv_at hl 0 rfl) ?_
            refine lv_aload_n hx hb d_Mo_findHeights_68 rfl (lv_at hl 2 rfl) ?_
            refine lv_iload_n hx hb d_Mo_findHeights_69 rfl (lv_at hl 1 rfl) ?_
            refine cx_V (n := 1) (C := R_Mo) (As := [.int (nI i)]) (rest := [.int (nI k), .ref (gad G 20), .int ((mJ (hiM σ e0 j i (k - (i + 1))) 11) (nI k).toNatClampNeg), .int ((mJ (hiM σ e0 j i (k - (i + 1))) 11) (nI i).toNatClampNeg), .int (nI i), .ref (gad G 34)]) ⟨hx, hb, hml, hown, fun _ h9 => nomatch h9⟩ (K_Mo_target g (hiM σ e0 j i (k - (i + 1))) (nI i) (vp_in_nI (by omega) (by decide))) (k_709 hT) (k_711 hT) (ks_25 hT) (k_712 hT) (k_9 hT) rfl (by decide +kernel) (va_recv hK hP (ci := 7) (q0 := 0) rfl rfl) (hc.at g hS hP) ⟨by decide, by decide⟩ ⟨by decide, by decide⟩ hl.1 (Nat.le_of_ble_eq_true rfl) d_Mo_findHeights_70 (fun _ h9 => h9) hS (fun _ _ _ _ _ _ _ h9 => h9.elim) (fun v t H locs ht9 hRt hz hk hS => ?_)
            obtain ⟨r, u, rfl, ⟨er, eu⟩, hP⟩ := hRt
            subst er
            rw [eu, ht9] at hP
            have hD : va_D (gA G) (mw G (hiM σ e0 j i (k - (i + 1)))) := g.d
            refine W.eq (g2 := F0 m 73 ls [.int (taQ (mq (hiM σ e0 j i (k - (i + 1))) (ix (nI i)))), .int (nI k), .ref (gad G 20), .int ((mJ (hiM σ e0 j i (k - (i + 1))) 11) (nI k).toNatClampNeg), .int ((mJ (hiM σ e0 j i (k - (i + 1))) 11) (nI i).toNatClampNeg), .int (nI i), .ref (gad G 34)]) rfl ?_
            refine cx_V (n := 2) (C := R_Mo) (As := [.int (nI k), .int (taQ (mq (hiM σ e0 j i (k - (i + 1))) (ix (nI i))))]) (rest := [.int ((mJ (hiM σ e0 j i (k - (i + 1))) 11) (nI k).toNatClampNeg), .int ((mJ (hiM σ e0 j i (k - (i + 1))) 11) (nI i).toNatClampNeg), .int (nI i), .ref (gad G 34)]) ⟨hx, hb, hml, hown, fun _ h9 => nomatch h9⟩ (K_Mo_reads g (hiM σ e0 j i (k - (i + 1))) (nI k) (taQ (mq (hiM σ e0 j i (k - (i + 1))) (ix (nI i)))) (vp_in_nI (by omega) (by decide))) (k_759 hT) (k_761 hT) (ks_35 hT) (k_762 hT) (k_9 hT) rfl (by decide +kernel) (va_recv hK hP (ci := 7) (q0 := 0) rfl rfl) (hc.at g hS hP) ⟨by decide, by decide⟩ ⟨by decide, by decide⟩ hl.1 (Nat.le_of_ble_eq_true rfl) d_Mo_findHeights_73 (fun _ h9 => h9) hS (fun _ _ _ _ _ _ _ h9 => h9.elim) (fun v t H locs ht9 hRt hz hk hS => ?_)
            obtain ⟨r, u, rfl, ⟨er, eu⟩, hP⟩ := hRt
            subst er
            rw [eu, ht9] at hP
            have hD : va_D (gA G) (mw G (hiM σ e0 j i (k - (i + 1)))) := g.d
            refine W.eq (g2 := F0 m 76 ls [.int (b2i (rdM (mq (hiM σ e0 j i (k - (i + 1))) (ix (nI k))) (taQ (mq (hiM σ e0 j i (k - (i + 1))) (ix (nI i)))))), .int ((mJ (hiM σ e0 j i (k - (i + 1))) 11) (nI k).toNatClampNeg), .int ((mJ (hiM σ e0 j i (k - (i + 1))) 11) (nI i).toNatClampNeg), .int (nI i), .ref (gad G 34)]) rfl ?_
            refine lv_if_eq (tgt := 87) hx hb d_Mo_findHeights_76 (by decide) (fun c76 => ?_) (fun c76 => ?_)
            · have c76 := b2i0 c76
              refine lv_iconst (v := 1) hx hb d_Mo_findHeights_87 (by decide) ?_
              refine lv_iadd hx hb d_Mo_findHeights_88 ?_
              refine cx_S (n := 2) (As := [.int ((mJ (hiM σ e0 j i (k - (i + 1))) 11) (nI i).toNatClampNeg), .int (((mJ (hiM σ e0 j i (k - (i + 1))) 11) (nI k).toNatClampNeg) + 1)]) (rest := [.int (nI i), .ref (gad G 34)]) ⟨hx, hb, hml, hown, fun _ h9 => nomatch h9⟩ (K_Mo_later g (hiM σ e0 j i (k - (i + 1))) ((mJ (hiM σ e0 j i (k - (i + 1))) 11) (nI i).toNatClampNeg) (((mJ (hiM σ e0 j i (k - (i + 1))) 11) (nI k).toNatClampNeg) + 1) ) (k_721 hT) (k_722 hT) (k_723 hT) (k_9 hT) rfl (by decide +kernel) (hc.at g hS hP) ⟨by decide, by decide⟩ ⟨by decide, by decide⟩ hl.1 (Nat.le_of_ble_eq_true rfl) d_Mo_findHeights_89 (fun _ h9 => h9) hS (fun _ _ _ _ _ _ _ h9 => h9.elim) (fun v t H locs ht9 hRt hz hk hS => ?_)
              obtain ⟨r, u, rfl, ⟨er, eu⟩, hP⟩ := hRt
              subst er
              rw [eu, ht9] at hP
              have hD : va_D (gA G) (mw G (hiM σ e0 j i (k - (i + 1)))) := g.d
              refine W.eq (g2 := F0 m 92 ls [.int (ltF ((mJ (hiM σ e0 j i (k - (i + 1))) 11) (nI i).toNatClampNeg) (((mJ (hiM σ e0 j i (k - (i + 1))) 11) (nI k).toNatClampNeg) + 1)), .int (nI i), .ref (gad G 34)]) rfl ?_
              refine va_iast (f := (mJ (hiM σ e0 j i (k - (i + 1))) 11)) hx hb hK hP hD hS 14 0 rfl rfl (vp_in_nI (by omega) (by decide)) d_Mo_findHeights_92 (fun H locs hP hD hS => ?_)
              have hP : va_P (gD G) classes (mw G (tJ (hiM σ e0 j i (k - (i + 1))) 11 (upd (mJ (hiM σ e0 j i (k - (i + 1))) 11) (nI i).toNatClampNeg (ltF ((mJ (hiM σ e0 j i (k - (i + 1))) 11) (nI i).toNatClampNeg) (((mJ (hiM σ e0 j i (k - (i + 1))) 11) (nI k).toNatClampNeg) + 1))))) H := by have h9 := hP; rw [mwS_J11] at h9; exact h9
              have hD : va_D (gA G) (mw G (tJ (hiM σ e0 j i (k - (i + 1))) 11 (upd (mJ (hiM σ e0 j i (k - (i + 1))) 11) (nI i).toNatClampNeg (ltF ((mJ (hiM σ e0 j i (k - (i + 1))) 11) (nI i).toNatClampNeg) (((mJ (hiM σ e0 j i (k - (i + 1))) 11) (nI k).toNatClampNeg) + 1))))) := g.d
              refine lv_iinc (v := ((nI k) + 1)) (lv' := [(4, .int ((nI k) + 1)), (3, .int (nI i)), (0, .ref (gad G 20)), (1, .int (nI a)), (2, .int (nI e0))]) hx hb d_Mo_findHeights_93 hl (k := 0) rfl rfl (by decide) rfl (fun ls hl => ?_)
              refine lv_goto (tgt := 28) hx hb d_Mo_findHeights_96 (by decide) ?_
              rw [ic2, kc2] at c41
              rw [ic2, kc2] at c76
              have hL : LM σ i k = 1 := if_neg (fun z => Bool.noConfusion (c76.symm.trans z))
              rw [← hL, ic, kc] at hP
              have lb4 : ((nI (k + 1)) : Int32) = ((nI k) + 1) := (nI_1 _).symm
              exact kk _ _ _ ⟨(by omega), by rw [hi_yes hek (show TM σ i k = true from c41)]; exact hP, hS, by rw [lb4]; exact lv_sub hl [0, 1, 2, 3, 4] rfl⟩
            · have c76 := b2i1 c76
              refine lv_aload_n hx hb d_Mo_findHeights_79 rfl (lv_at hl 2 rfl) ?_
              refine lv_iload_n hx hb d_Mo_findHeights_80 rfl (lv_at hl 1 rfl) ?_
              refine cx_V (n := 1) (C := R_Mo) (As := [.int (nI i)]) (rest := [.int ((mJ (hiM σ e0 j i (k - (i + 1))) 11) (nI k).toNatClampNeg), .int ((mJ (hiM σ e0 j i (k - (i + 1))) 11) (nI i).toNatClampNeg), .int (nI i), .ref (gad G 34)]) ⟨hx, hb, hml, hown, fun _ h9 => nomatch h9⟩ (K_Mo_latency g (hiM σ e0 j i (k - (i + 1))) (nI i) (vp_in_nI (by omega) (by decide))) (k_713 hT) (k_715 hT) (ks_26 hT) (k_716 hT) (k_9 hT) rfl (by decide +kernel) (va_recv hK hP (ci := 7) (q0 := 0) rfl rfl) (hc.at g hS hP) ⟨by decide, by decide⟩ ⟨by decide, by decide⟩ hl.1 (Nat.le_of_ble_eq_true rfl) d_Mo_findHeights_81 (fun _ h9 => h9) hS (fun _ _ _ _ _ _ _ h9 => h9.elim) (fun v t H locs ht9 hRt hz hk hS => ?_)
              obtain ⟨r, u, rfl, ⟨er, eu⟩, hP⟩ := hRt
              subst er
              rw [eu, ht9] at hP
              have hD : va_D (gA G) (mw G (hiM σ e0 j i (k - (i + 1)))) := g.d
              refine W.eq (g2 := F0 m 84 ls [.int (laQ (mq (hiM σ e0 j i (k - (i + 1))) (ix (nI i)))), .int ((mJ (hiM σ e0 j i (k - (i + 1))) 11) (nI k).toNatClampNeg), .int ((mJ (hiM σ e0 j i (k - (i + 1))) 11) (nI i).toNatClampNeg), .int (nI i), .ref (gad G 34)]) rfl ?_
              refine lv_goto (tgt := 88) hx hb d_Mo_findHeights_84 (by decide) ?_
              refine lv_iadd hx hb d_Mo_findHeights_88 ?_
              refine cx_S (n := 2) (As := [.int ((mJ (hiM σ e0 j i (k - (i + 1))) 11) (nI i).toNatClampNeg), .int (((mJ (hiM σ e0 j i (k - (i + 1))) 11) (nI k).toNatClampNeg) + (laQ (mq (hiM σ e0 j i (k - (i + 1))) (ix (nI i)))))]) (rest := [.int (nI i), .ref (gad G 34)]) ⟨hx, hb, hml, hown, fun _ h9 => nomatch h9⟩ (K_Mo_later g (hiM σ e0 j i (k - (i + 1))) ((mJ (hiM σ e0 j i (k - (i + 1))) 11) (nI i).toNatClampNeg) (((mJ (hiM σ e0 j i (k - (i + 1))) 11) (nI k).toNatClampNeg) + (laQ (mq (hiM σ e0 j i (k - (i + 1))) (ix (nI i))))) ) (k_721 hT) (k_722 hT) (k_723 hT) (k_9 hT) rfl (by decide +kernel) (hc.at g hS hP) ⟨by decide, by decide⟩ ⟨by decide, by decide⟩ hl.1 (Nat.le_of_ble_eq_true rfl) d_Mo_findHeights_89 (fun _ h9 => h9) hS (fun _ _ _ _ _ _ _ h9 => h9.elim) (fun v t H locs ht9 hRt hz hk hS => ?_)
              obtain ⟨r, u, rfl, ⟨er, eu⟩, hP⟩ := hRt
              subst er
              rw [eu, ht9] at hP
              have hD : va_D (gA G) (mw G (hiM σ e0 j i (k - (i + 1)))) := g.d
              refine W.eq (g2 := F0 m 92 ls [.int (ltF ((mJ (hiM σ e0 j i (k - (i + 1))) 11) (nI i).toNatClampNeg) (((mJ (hiM σ e0 j i (k - (i + 1))) 11) (nI k).toNatClampNeg) + (laQ (mq (hiM σ e0 j i (k - (i + 1))) (ix (nI i)))))), .int (nI i), .ref (gad G 34)]) rfl ?_
              refine va_iast (f := (mJ (hiM σ e0 j i (k - (i + 1))) 11)) hx hb hK hP hD hS 14 0 rfl rfl (vp_in_nI (by omega) (by decide)) d_Mo_findHeights_92 (fun H locs hP hD hS => ?_)
              have hP : va_P (gD G) classes (mw G (tJ (hiM σ e0 j i (k - (i + 1))) 11 (upd (mJ (hiM σ e0 j i (k - (i + 1))) 11) (nI i).toNatClampNeg (ltF ((mJ (hiM σ e0 j i (k - (i + 1))) 11) (nI i).toNatClampNeg) (((mJ (hiM σ e0 j i (k - (i + 1))) 11) (nI k).toNatClampNeg) + (laQ (mq (hiM σ e0 j i (k - (i + 1))) (ix (nI i))))))))) H := by have h9 := hP; rw [mwS_J11] at h9; exact h9
              have hD : va_D (gA G) (mw G (tJ (hiM σ e0 j i (k - (i + 1))) 11 (upd (mJ (hiM σ e0 j i (k - (i + 1))) 11) (nI i).toNatClampNeg (ltF ((mJ (hiM σ e0 j i (k - (i + 1))) 11) (nI i).toNatClampNeg) (((mJ (hiM σ e0 j i (k - (i + 1))) 11) (nI k).toNatClampNeg) + (laQ (mq (hiM σ e0 j i (k - (i + 1))) (ix (nI i))))))))) := g.d
              refine lv_iinc (v := ((nI k) + 1)) (lv' := [(4, .int ((nI k) + 1)), (3, .int (nI i)), (0, .ref (gad G 20)), (1, .int (nI a)), (2, .int (nI e0))]) hx hb d_Mo_findHeights_93 hl (k := 0) rfl rfl (by decide) rfl (fun ls hl => ?_)
              refine lv_goto (tgt := 28) hx hb d_Mo_findHeights_96 (by decide) ?_
              rw [ic2, kc2] at c41
              rw [ic2, kc2] at c76
              have hL : LM σ i k = laQ (mq (hiM σ e0 j i (k - (i + 1))) (ix (nI i))) := by rw [ic2]; exact if_pos c76
              rw [← hL, ic, kc] at hP
              have lb4 : ((nI (k + 1)) : Int32) = ((nI k) + 1) := (nI_1 _).symm
              exact kk _ _ _ ⟨(by omega), by rw [hi_yes hek (show TM σ i k = true from c41)]; exact hP, hS, by rw [lb4]; exact lv_sub hl [0, 1, 2, 3, 4] rfl⟩
          · have c41 := b2i0 c41
            refine lv_goto (tgt := 93) hx hb d_Mo_findHeights_44 (by decide) ?_
            refine lv_iinc (v := ((nI k) + 1)) (lv' := [(4, .int ((nI k) + 1)), (3, .int (nI i)), (0, .ref (gad G 20)), (1, .int (nI a)), (2, .int (nI e0))]) hx hb d_Mo_findHeights_93 hl (k := 0) rfl rfl (by decide) rfl (fun ls hl => ?_)
            refine lv_goto (tgt := 28) hx hb d_Mo_findHeights_96 (by decide) ?_
            rw [ic2, kc2] at c41
            have lb4 : ((nI (k + 1)) : Int32) = ((nI k) + 1) := (nI_1 _).symm
            exact kk _ _ _ ⟨(by omega), by rw [hi_no hek (show TM σ i k = false from c41)]; exact hP, hS, by rw [lb4]; exact lv_sub hl [0, 1, 2, 3, 4] rfl⟩
      · obtain ⟨hek, hP, hS, hl⟩ := hJ
        have hD := g.d (τ := (hiM σ e0 j i (e0 - (i + 1))))
        refine lv_iload hx hb d_Mo_findHeights_28 (lv_at hl 0 rfl) ?_
        refine lv_iload_n hx hb d_Mo_findHeights_30 rfl (lv_at hl 4 rfl) ?_
        refine lv_icmp_ge (tgt := 99) hx hb d_Mo_findHeights_31 (by decide) (fun c31 => ?_) (fun c31 => ?_)
        · refine lv_iinc (v := ((nI i) + (-1))) (lv' := [(3, .int ((nI i) + (-1))), (4, .int (nI e0)), (0, .ref (gad G 20)), (1, .int (nI a)), (2, .int (nI e0))]) hx hb d_Mo_findHeights_99 hl (k := 1) rfl rfl (by decide) rfl (fun ls hl => ?_)
          refine lv_goto (tgt := 4) hx hb d_Mo_findHeights_102 (by decide) ?_
          have lb3 : (((nI e0 - 1) - nI (j + 1)) : Int32) = ((nI i) + (-1)) := dI_dec hi he
          exact kj _ _ _ ⟨by rw [hs_s hi]; exact hP, hS, by rw [lb3]; exact lv_sub hl [0, 2, 3, 4] rfl⟩
        · exact absurd (nI_le (Nat.le_refl _) (by omega)) c31
  · obtain ⟨hP, hS, hl⟩ := hJ
    have hD := g.d (τ := (hsM σ e0 (e0 - a)))
    refine lv_iload_n hx hb d_Mo_findHeights_4 rfl (lv_at hl 0 rfl) ?_
    refine lv_iload_n hx hb d_Mo_findHeights_5 rfl (lv_at hl 2 rfl) ?_
    refine lv_icmp_lt (tgt := 105) hx hb d_Mo_findHeights_6 (by decide) (fun c6 => ?_) (fun c6 => ?_)
    · exact mend_v (u := (hsM σ e0 (e0 - a))) hx hb hr hlocks hS hP d_Mo_findHeights_105 (rfl)
    · exact absurd (dI_lt ha he) c6

