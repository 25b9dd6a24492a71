/-! CONTRACTS: the Scheduler -/
section CSch
def QO (σ : CS) (k : Nat) : Nat → Int32 := cQ σ (cP σ 1 k)
def TC (σ : CS) (i k : Nat) : Bool := msbQ (QO σ k) (QO σ i)
def LC (σ : CS) (i k : Nat) : Int32 := LcQ (QO σ) i k
/-- the old places hold instructions, and these are in range -/
def OkO (σ : CS) : Prop := (∀ k, k < 24 → cP σ 1 k < 24) ∧ ∀ i, i < 24 → okQ (cQ σ i)
theorem cwS_J6 (G : GT) (σ : CS) (f : Nat → Int32) : List.set (cw G σ) 16 (gad G 16, .inl (gk G 2, 24, aI f)) = cw G (sJ σ 6 f) := rfl
theorem cwS_J7 (G : GT) (σ : CS) (f : Nat → Int32) : List.set (cw G σ) 17 (gad G 17, .inl (gk G 0, 24, aI f)) = cw G (sJ σ 7 f) := rfl
theorem cwS_J8 (G : GT) (σ : CS) (f : Nat → Int32) : List.set (cw G σ) 18 (gad G 18, .inl (gk G 0, 24, aI f)) = cw G (sJ σ 8 f) := rfl
theorem insR_up (G : GT) (P : Nat → Nat) (k v : Nat) (hv : v < 24) : va_up (fun i => insR G (P i)) k (some (gia G v)) = fun i => insR G (updN P k v i) := by
  funext j
  unfold va_up updN
  by_cases h : j = k
  · rw [if_pos h, if_pos h]; unfold insR; rw [if_pos hv]
  · rw [if_neg h, if_neg h]
theorem cwS_P0 (G : GT) (σ : CS) (k v : Nat) (hv : v < 24) : List.set (cw G σ) 1 (gad G 1, .inl (gk G 3, 24, aQ (va_up (fun i => insR G (cP σ 0 i)) k (some (gia G v))))) = cw G (sP σ 0 (updN (cP σ 0) k v)) := by
  rw [insR_up G (cP σ 0) k v hv]
  rfl
theorem cwS_P1 (G : GT) (σ : CS) (k v : Nat) (hv : v < 24) : List.set (cw G σ) 15 (gad G 15, .inl (gk G 3, 24, aQ (va_up (fun i => insR G (cP σ 1 i)) k (some (gia G v))))) = cw G (sP σ 1 (updN (cP σ 1) k v)) := by
  rw [insR_up G (cP σ 1) k v hv]
  rfl
theorem sJ_sJ (τ : CS) (k : Nat) (f g : Nat → Int32) : sJ (sJ τ k f) k g = sJ τ k g := by
  have : va_up (va_up τ.2.1 k f) k g = va_up τ.2.1 k g := by
    funext j
    unfold va_up
    split <;> rfl
  unfold sJ
  dsimp only
  rw [this]
theorem sJ_comm (τ : CS) {k j : Nat} (f g : Nat → Int32) (h : k ≠ j) : sJ (sJ τ k f) j g = sJ (sJ τ j g) k f := by
  have : va_up (va_up τ.2.1 k f) j g = va_up (va_up τ.2.1 j g) k f := by
    funext x
    unfold va_up
    by_cases h1 : x = j
    · subst h1; simp [Ne.symm h]
    · simp [h1]
  unfold sJ
  dsimp only
  rw [this]
theorem sJ_self (τ : CS) (k : Nat) : sJ τ k (cJ τ k) = τ := by
  have : va_up τ.2.1 k (cJ τ k) = τ.2.1 := by
    funext j
    unfold va_up
    split
    · rename_i h; subst h; rfl
    · rfl
  unfold sJ
  rw [this]
theorem oi_m1 {o : Option Nat} (h : oi o = -1) (hb : ∀ b, o = some b → b < 24) : o = none := by
  cases o with
  | none => rfl
  | some b =>
    have h2 : (nI b).toInt = (-1 : Int32).toInt := congrArg Int32.toInt h
    rw [nI_toInt (by have := hb b rfl; omega)] at h2
    exact absurd h2 (by rw [show (-1 : Int32).toInt = -1 by decide]; omega)
theorem oi_nm {o : Option Nat} (h : ¬ oi o = -1) : ∃ b, o = some b := by
  cases o with
  | none => exact absurd rfl h
  | some b => exact ⟨b, rfl⟩
theorem may_0 {bh : Nat → Int32} {lf : Int32} {i : Nat} (h : lf &&& sh1 i = 0) : may bh lf i = false := by unfold may; rw [if_pos h]
theorem may_1 {bh : Nat → Int32} {lf : Int32} {i : Nat} (h : ¬ lf &&& sh1 i = 0) (h2 : ¬ lf &&& bh i = 0) : may bh lf i = false := by unfold may; rw [if_neg h, if_neg h2]
theorem may_2 {bh : Nat → Int32} {lf : Int32} {i : Nat} (h : ¬ lf &&& sh1 i = 0) (h2 : lf &&& bh i = 0) : may bh lf i = true := by unfold may; rw [if_neg h, if_pos h2]
end CSch
set_option maxHeartbeats 4000000 in
set_option maxRecDepth 100000 in
theorem K_Sc_nextToPlace {l : Launch} {G : GT} (g : GOK l G) (σ : CS) {a e0 : Nat} (ha : a ≤ e0) (he : e0 ≤ 24) (lf : Int32) : cx_M l y_Sc_nextToPlace (.code y_Sc_nextToPlace b_Sc_nextToPlace 7 (some .int)) 0 0 (gA G) [.ref (gad G 14), .int (nI a), .int (nI e0), .int lf] (Cw G σ) (Ri G (fun r u => r = nI (pkC (cJ σ 8) (cJ σ 7) a e0 lf) ∧ u = σ)) (Tn) := by
  refine cx_of (by decide +kernel) ?_
  intro p e s m below meth c s₁ B hml ht hc
  have hx := B.exec
  have hb := B.bytes
  have hr := B.returns
  have hown : s.vm.findClass R_Sc = some m.cls := findClass_of_methodNamed B.named
  have hlocks := B.notSynchronized
  have hT := g.tb hc
  have hK := g.k hc
  have hD := g.d (σ := σ)
  have hS : va_S (gA G) s.heap s.heap [] := va_S.rf
  have hP := hc.2.2
  have hl := lv_entry ([.ref (gad G 14), .int (nI a), .int (nI e0), .int lf]) (n := 7) (Nat.le_of_ble_eq_true rfl)
  rw [lg_entry_eq]
  generalize (lg_sl ([.ref (gad G 14), .int (nI a), .int (nI e0), .int lf]) ++ List.replicate (7 - (lg_sl ([.ref (gad G 14), .int (nI a), .int (nI e0), .int lf])).length) Slot.unset).toArray = ls at hl ⊢
  have hl : lv_has ls 7 [(0, .ref (gad G 14)), (1, .int (nI a)), (2, .int (nI e0)), (3, .int lf)] := hl
  refine lv_iconst (v := (-1)) hx hb d_Sc_nextToPlace_0 (by decide) ?_
  refine lv_istore (lv' := [(4, .int (-1)), (0, .ref (gad G 14)), (1, .int (nI a)), (2, .int (nI e0)), (3, .int lf)]) hx hb d_Sc_nextToPlace_1 hl (by decide) rfl (fun ls hl => ?_)
  refine lv_iload_n hx hb d_Sc_nextToPlace_3 rfl (lv_at hl 2 rfl) ?_
  refine lv_istore (lv' := [(5, .int (nI a)), (4, .int (-1)), (0, .ref (gad G 14)), (1, .int (nI a)), (2, .int (nI e0)), (3, .int lf)]) hx hb d_Sc_nextToPlace_4 hl (by decide) rfl (fun ls hl => ?_)
  have li4 : ((oi (bst (may (cJ σ 8) lf) (cJ σ 7) a (a - a))) : Int32) = (-1) := by rw [Nat.sub_self]; rfl
  refine W_for (N := e0) (fun j H locs ls => (a ≤ j) ∧ va_P (gD G) classes (cw G σ) H ∧ va_S (gA G) s.heap H locs ∧ lv_has ls 7 [(5, .int (nI j)), (4, .int (oi (bst (may (cJ σ 8) lf) (cJ σ 7) a (j - a)))), (0, .ref (gad G 14)), (1, .int (nI a)), (2, .int (nI e0)), (3, .int lf)]) (fun ls => F0 m 6 ls []) (fun j H locs ls hj hJ kj => ?_) (fun H locs ls hJ => ?_) a _ _ _ ha ⟨Nat.le_refl _, hP, hS, by rw [li4]; exact lv_sub hl [0, 1, 2, 3, 4, 5] rfl⟩
  · obtain ⟨hej, hP, hS, hl⟩ := hJ
    have hD := g.d (σ := σ)
    have jc : (nI j).toNatClampNeg = j := nI_clamp (by omega)
    have hbb : ∀ b, (bst (may (cJ σ 8) lf) (cJ σ 7) a (j - a)) = some b → b < 24 := fun b hb9 => by have := bst_some _ _ hb9; omega
    refine lv_iload hx hb d_Sc_nextToPlace_6 (lv_at hl 0 rfl) ?_
    refine lv_iload_n hx hb d_Sc_nextToPlace_8 rfl (lv_at hl 4 rfl) ?_
    refine lv_icmp_ge (tgt := 78) hx hb d_Sc_nextToPlace_9 (by decide) (fun c9 => ?_) (fun c9 => ?_)
    · exact absurd c9 (nI_ge hj (by omega))
    · refine lv_iload_n hx hb d_Sc_nextToPlace_12 rfl (lv_at hl 5 rfl) ?_
      refine lv_iconst (v := 1) hx hb d_Sc_nextToPlace_13 (by decide) ?_
      refine lv_iload hx hb d_Sc_nextToPlace_14 (lv_at hl 0 rfl) ?_
      refine lv_ishl hx hb d_Sc_nextToPlace_16 ?_
      refine lv_iand hx hb d_Sc_nextToPlace_17 ?_
      refine lv_if_eq (tgt := 37) hx hb d_Sc_nextToPlace_18 (by decide) (fun c18 => ?_) (fun c18 => ?_)
      · refine lv_iconst (v := 0) hx hb d_Sc_nextToPlace_37 (by decide) ?_
        refine lv_istore (lv' := [(6, .int 0), (5, .int (nI j)), (4, .int (oi (bst (may (cJ σ 8) lf) (cJ σ 7) a (j - a)))), (0, .ref (gad G 14)), (1, .int (nI a)), (2, .int (nI e0)), (3, .int lf)]) hx hb d_Sc_nextToPlace_38 hl (by decide) rfl (fun ls hl => ?_)
        refine lv_iload hx hb d_Sc_nextToPlace_40 (lv_at hl 0 rfl) ?_
        refine lv_if_eq (tgt := 72) hx hb d_Sc_nextToPlace_42 (by decide) (fun c42 => ?_) (fun c42 => ?_)
        · refine lv_iinc (v := ((nI j) + 1)) (lv' := [(5, .int ((nI j) + 1)), (6, .int 0), (4, .int (oi (bst (may (cJ σ 8) lf) (cJ σ 7) a (j - a)))), (0, .ref (gad G 14)), (1, .int (nI a)), (2, .int (nI e0)), (3, .int lf)]) hx hb d_Sc_nextToPlace_72 hl (k := 1) rfl rfl (by decide) rfl (fun ls hl => ?_)
          refine lv_goto (tgt := 6) hx hb d_Sc_nextToPlace_75 (by decide) ?_
          have lb5 : ((nI (j + 1)) : Int32) = ((nI j) + 1) := (nI_1 _).symm
          have lb4 : ((oi (bst (may (cJ σ 8) lf) (cJ σ 7) a ((j + 1) - a))) : Int32) = (oi (bst (may (cJ σ 8) lf) (cJ σ 7) a (j - a))) := by rw [bs_no hej (may_0 c18)]
          exact kj _ _ _ ⟨(by omega), hP, hS, by rw [lb5, lb4]; exact lv_sub hl [0, 2, 3, 4, 5, 6] rfl⟩
        · exact absurd rfl c42
      · refine lv_iload_n hx hb d_Sc_nextToPlace_21 rfl (lv_at hl 5 rfl) ?_
        refine lv_aload_n hx hb d_Sc_nextToPlace_22 rfl (lv_at hl 2 rfl) ?_
        refine va_get (D := gD G) (ci := 5) (v := .ref (gad G 18)) (C := R_Sc) (T := F_Sc) (N := 4) hx hb (wl_Sc hT) (fun _ h9 => h9) hown hK hP 14 rfl rfl 3 (by decide) (k_129 hT) (fun _ h9 => h9) rfl d_Sc_nextToPlace_23 ?_
        refine lv_iload hx hb d_Sc_nextToPlace_26 (lv_at hl 0 rfl) ?_
        refine va_iald (f := (cJ σ 8)) hx hb hK hP 18 0 rfl rfl (vp_in_nI (by omega) (by decide)) d_Sc_nextToPlace_28 ?_
        refine lv_iand hx hb d_Sc_nextToPlace_29 ?_
        refine lv_if_ne (tgt := 37) hx hb d_Sc_nextToPlace_30 (by decide) (fun c30 => ?_) (fun c30 => ?_)
        · refine lv_iconst (v := 0) hx hb d_Sc_nextToPlace_37 (by decide) ?_
          refine lv_istore (lv' := [(6, .int 0), (5, .int (nI j)), (4, .int (oi (bst (may (cJ σ 8) lf) (cJ σ 7) a (j - a)))), (0, .ref (gad G 14)), (1, .int (nI a)), (2, .int (nI e0)), (3, .int lf)]) hx hb d_Sc_nextToPlace_38 hl (by decide) rfl (fun ls hl => ?_)
          refine lv_iload hx hb d_Sc_nextToPlace_40 (lv_at hl 0 rfl) ?_
          refine lv_if_eq (tgt := 72) hx hb d_Sc_nextToPlace_42 (by decide) (fun c42 => ?_) (fun c42 => ?_)
          · refine lv_iinc (v := ((nI j) + 1)) (lv' := [(5, .int ((nI j) + 1)), (6, .int 0), (4, .int (oi (bst (may (cJ σ 8) lf) (cJ σ 7) a (j - a)))), (0, .ref (gad G 14)), (1, .int (nI a)), (2, .int (nI e0)), (3, .int lf)]) hx hb d_Sc_nextToPlace_72 hl (k := 1) rfl rfl (by decide) rfl (fun ls hl => ?_)
            refine lv_goto (tgt := 6) hx hb d_Sc_nextToPlace_75 (by decide) ?_
            rw [jc] at c30
            have lb5 : ((nI (j + 1)) : Int32) = ((nI j) + 1) := (nI_1 _).symm
            have lb4 : ((oi (bst (may (cJ σ 8) lf) (cJ σ 7) a ((j + 1) - a))) : Int32) = (oi (bst (may (cJ σ 8) lf) (cJ σ 7) a (j - a))) := by rw [bs_no hej (may_1 c18 c30)]
            exact kj _ _ _ ⟨(by omega), hP, hS, by rw [lb5, lb4]; exact lv_sub hl [0, 2, 3, 4, 5, 6] rfl⟩
          · exact absurd rfl c42
        · refine lv_iconst (v := 1) hx hb d_Sc_nextToPlace_33 (by decide) ?_
          refine lv_goto (tgt := 38) hx hb d_Sc_nextToPlace_34 (by decide) ?_
          refine lv_istore (lv' := [(6, .int 1), (5, .int (nI j)), (4, .int (oi (bst (may (cJ σ 8) lf) (cJ σ 7) a (j - a)))), (0, .ref (gad G 14)), (1, .int (nI a)), (2, .int (nI e0)), (3, .int lf)]) hx hb d_Sc_nextToPlace_38 hl (by decide) rfl (fun ls hl => ?_)
          refine lv_iload hx hb d_Sc_nextToPlace_40 (lv_at hl 0 rfl) ?_
          refine lv_if_eq (tgt := 72) hx hb d_Sc_nextToPlace_42 (by decide) (fun c42 => ?_) (fun c42 => ?_)
          · exact absurd c42 (by decide)
          · refine lv_iload hx hb d_Sc_nextToPlace_45 (lv_at hl 2 rfl) ?_
            refine lv_iconst (v := (-1)) hx hb d_Sc_nextToPlace_47 (by decide) ?_
            refine lv_icmp_eq (tgt := 68) hx hb d_Sc_nextToPlace_48 (by decide) (fun c48 => ?_) (fun c48 => ?_)
            · refine lv_iload hx hb d_Sc_nextToPlace_68 (lv_at hl 1 rfl) ?_
              refine lv_istore (lv' := [(4, .int (nI j)), (6, .int 1), (5, .int (nI j)), (0, .ref (gad G 14)), (1, .int (nI a)), (2, .int (nI e0)), (3, .int lf)]) hx hb d_Sc_nextToPlace_70 hl (by decide) rfl (fun ls hl => ?_)
              refine lv_iinc (v := ((nI j) + 1)) (lv' := [(5, .int ((nI j) + 1)), (4, .int (nI j)), (6, .int 1), (0, .ref (gad G 14)), (1, .int (nI a)), (2, .int (nI e0)), (3, .int lf)]) hx hb d_Sc_nextToPlace_72 hl (k := 2) rfl rfl (by decide) rfl (fun ls hl => ?_)
              refine lv_goto (tgt := 6) hx hb d_Sc_nextToPlace_75 (by decide) ?_
              rw [jc] at c30
              have lb5 : ((nI (j + 1)) : Int32) = ((nI j) + 1) := (nI_1 _).symm
              have lb4 : ((oi (bst (may (cJ σ 8) lf) (cJ σ 7) a ((j + 1) - a))) : Int32) = (nI j) := by rw [bs_y hej (may_2 c18 c30), oi_m1 c48 hbb]; rfl
              exact kj _ _ _ ⟨(by omega), hP, hS, by rw [lb5, lb4]; exact lv_sub hl [0, 1, 3, 4, 5, 6] rfl⟩
            · obtain ⟨b, hbo⟩ := oi_nm c48
              have hb24 := hbb b hbo
              have bc : (nI b).toNatClampNeg = b := nI_clamp (by omega)
              rw [hbo] at hl
              have hl : lv_has ls 7 [(6, .int 1), (5, .int (nI j)), (4, .int (nI b)), (0, .ref (gad G 14)), (1, .int (nI a)), (2, .int (nI e0)), (3, .int lf)] := hl
              refine lv_aload_n hx hb d_Sc_nextToPlace_51 rfl (lv_at hl 3 rfl) ?_
              refine va_get (D := gD G) (ci := 5) (v := .ref (gad G 17)) (C := R_Sc) (T := F_Sc) (N := 4) hx hb (wl_Sc hT) (fun _ h9 => h9) hown hK hP 14 rfl rfl 2 (by decide) (k_128 hT) (fun _ h9 => h9) rfl d_Sc_nextToPlace_52 ?_
              refine lv_iload hx hb d_Sc_nextToPlace_55 (lv_at hl 1 rfl) ?_
              refine va_iald (f := (cJ σ 7)) hx hb hK hP 17 0 rfl rfl (vp_in_nI (by omega) (by decide)) d_Sc_nextToPlace_57 ?_
              refine lv_aload_n hx hb d_Sc_nextToPlace_58 rfl (lv_at hl 3 rfl) ?_
              refine va_get (D := gD G) (ci := 5) (v := .ref (gad G 17)) (C := R_Sc) (T := F_Sc) (N := 4) hx hb (wl_Sc hT) (fun _ h9 => h9) hown hK hP 14 rfl rfl 2 (by decide) (k_128 hT) (fun _ h9 => h9) rfl d_Sc_nextToPlace_59 ?_
              refine lv_iload hx hb d_Sc_nextToPlace_62 (lv_at hl 2 rfl) ?_
              refine va_iald (f := (cJ σ 7)) hx hb hK hP 17 0 rfl rfl (vp_in_nI (by omega) (by decide)) d_Sc_nextToPlace_64 ?_
              refine lv_icmp_le (tgt := 72) hx hb d_Sc_nextToPlace_65 (by decide) (fun c65 => ?_) (fun c65 => ?_)
              · refine lv_iinc (v := ((nI j) + 1)) (lv' := [(5, .int ((nI j) + 1)), (6, .int 1), (4, .int (nI b)), (0, .ref (gad G 14)), (1, .int (nI a)), (2, .int (nI e0)), (3, .int lf)]) hx hb d_Sc_nextToPlace_72 hl (k := 1) rfl rfl (by decide) rfl (fun ls hl => ?_)
                refine lv_goto (tgt := 6) hx hb d_Sc_nextToPlace_75 (by decide) ?_
                rw [jc] at c30
                rw [jc, bc] at c65
                have lb5 : ((nI (j + 1)) : Int32) = ((nI j) + 1) := (nI_1 _).symm
                have lb4 : ((oi (bst (may (cJ σ 8) lf) (cJ σ 7) a ((j + 1) - a))) : Int32) = (nI b) := by rw [bs_y hej (may_2 c18 c30), hbo]; dsimp only; rw [if_pos c65]; rfl
                exact kj _ _ _ ⟨(by omega), hP, hS, by rw [lb5, lb4]; exact lv_sub hl [0, 2, 3, 4, 5, 6] rfl⟩
              · refine lv_iload hx hb d_Sc_nextToPlace_68 (lv_at hl 1 rfl) ?_
                refine lv_istore (lv' := [(4, .int (nI j)), (6, .int 1), (5, .int (nI j)), (0, .ref (gad G 14)), (1, .int (nI a)), (2, .int (nI e0)), (3, .int lf)]) hx hb d_Sc_nextToPlace_70 hl (by decide) rfl (fun ls hl => ?_)
                refine lv_iinc (v := ((nI j) + 1)) (lv' := [(5, .int ((nI j) + 1)), (4, .int (nI j)), (6, .int 1), (0, .ref (gad G 14)), (1, .int (nI a)), (2, .int (nI e0)), (3, .int lf)]) hx hb d_Sc_nextToPlace_72 hl (k := 2) rfl rfl (by decide) rfl (fun ls hl => ?_)
                refine lv_goto (tgt := 6) hx hb d_Sc_nextToPlace_75 (by decide) ?_
                rw [jc] at c30
                rw [jc, bc] at c65
                have lb5 : ((nI (j + 1)) : Int32) = ((nI j) + 1) := (nI_1 _).symm
                have lb4 : ((oi (bst (may (cJ σ 8) lf) (cJ σ 7) a ((j + 1) - a))) : Int32) = (nI j) := by rw [bs_y hej (may_2 c18 c30), hbo]; dsimp only; rw [if_neg c65]; rfl
                exact kj _ _ _ ⟨(by omega), hP, hS, by rw [lb5, lb4]; exact lv_sub hl [0, 1, 3, 4, 5, 6] rfl⟩
  · obtain ⟨hej, hP, hS, hl⟩ := hJ
    have hD := g.d (σ := σ)
    refine lv_iload hx hb d_Sc_nextToPlace_6 (lv_at hl 0 rfl) ?_
    refine lv_iload_n hx hb d_Sc_nextToPlace_8 rfl (lv_at hl 4 rfl) ?_
    refine lv_icmp_ge (tgt := 78) hx hb d_Sc_nextToPlace_9 (by decide) (fun c9 => ?_) (fun c9 => ?_)
    · refine lv_iload hx hb d_Sc_nextToPlace_78 (lv_at hl 1 rfl) ?_
      refine lv_iconst (v := (-1)) hx hb d_Sc_nextToPlace_80 (by decide) ?_
      refine lv_icmp_ne (tgt := 88) hx hb d_Sc_nextToPlace_81 (by decide) (fun c81 => ?_) (fun c81 => ?_)
      · refine lv_iload hx hb d_Sc_nextToPlace_88 (lv_at hl 1 rfl) ?_
        exact end_i (u := σ) hx hb hr hlocks hS hP d_Sc_nextToPlace_90 (⟨by obtain ⟨b, hbo⟩ := oi_nm c81; unfold pkC; rw [hbo]; rfl, rfl⟩)
      · refine lv_iload_n hx hb d_Sc_nextToPlace_84 rfl (lv_at hl 3 rfl) ?_
        refine lv_goto (tgt := 90) hx hb d_Sc_nextToPlace_85 (by decide) ?_
        exact end_i (u := σ) hx hb hr hlocks hS hP d_Sc_nextToPlace_90 (⟨by have hbb : ∀ b, (bst (may (cJ σ 8) lf) (cJ σ 7) a (e0 - a)) = some b → b < 24 := fun b hb9 => (by have := bst_some _ _ hb9; omega); unfold pkC; rw [oi_m1 c81 hbb]; rfl, rfl⟩)
    · exact absurd (nI_le (Nat.le_refl _) (by omega)) c9

section CFh
def hsC (σ : CS) (e j : Nat) : CS := sJ (sJ σ 7 (hOut (TC σ) (LC σ) e (cJ σ 7) j)) 8 (bOut (TC σ) e (cJ σ 8) j)
def hiC (σ : CS) (e j i n : Nat) : CS := sJ (sJ σ 7 (hIn (TC σ) (LC σ) i (upd (hOut (TC σ) (LC σ) e (cJ σ 7) j) i 0) n)) 8 (bIn (TC σ) i (upd (bOut (TC σ) e (cJ σ 8) j) i 0) n)
theorem hsC_0 (σ : CS) (e : Nat) : hsC σ e 0 = σ := by
  show sJ (sJ σ 7 (cJ σ 7)) 8 (cJ σ 8) = σ
  rw [sJ_self]
  exact sJ_self _ _
theorem hsC_s {σ : CS} {e j i : Nat} (hi : i + 1 + j = e) : hsC σ e (j + 1) = hiC σ e j i (e - (i + 1)) := by
  have e1 : e - 1 - j = i := by omega
  have e2 : e - (i + 1) = j := by omega
  unfold hsC hiC
  rw [e2]
  show sJ (sJ σ 7 (hIn (TC σ) (LC σ) (e - 1 - j) (upd (hOut (TC σ) (LC σ) e (cJ σ 7) j) (e - 1 - j) 0) j)) 8 (bIn (TC σ) (e - 1 - j) (upd (bOut (TC σ) e (cJ σ 8) j) (e - 1 - j) 0) j) = _
  rw [e1]
theorem hiC_0 {σ : CS} {e j i ic : Nat} (hc : ic = i) : hiC σ e j i (i + 1 - (i + 1)) = sJ (sJ (hsC σ e j) 7 (upd (cJ (hsC σ e j) 7) ic 0)) 8 (upd (cJ (hsC σ e j) 8) ic 0) := by
  rw [hc, Nat.sub_self]
  have e1 : cJ (hsC σ e j) 7 = hOut (TC σ) (LC σ) e (cJ σ 7) j := rfl
  have e2 : cJ (hsC σ e j) 8 = bOut (TC σ) e (cJ σ 8) j := rfl
  rw [e1, e2]
  unfold hsC hiC
  rw [sJ_comm (sJ σ 7 _) (k := 8) (j := 7) _ _ (by decide), sJ_sJ, sJ_sJ]
  rfl
theorem hiC_no {σ : CS} {e j i k : Nat} (hk : i + 1 ≤ k) (ht : TC σ i k = false) : hiC σ e j i (k + 1 - (i + 1)) = hiC σ e j i (k - (i + 1)) := by
  unfold hiC
  rw [show k + 1 - (i + 1) = (k - (i + 1)) + 1 by omega]
  unfold hIn bIn
  rw [show i + 1 + (k - (i + 1)) = k by omega, if_neg (by rw [ht]; decide), if_neg (by rw [ht]; decide)]
  cases k - (i + 1) <;> rfl
theorem hiC_yes {σ : CS} {e j i k : Nat} (hk : i + 1 ≤ k) (ht : TC σ i k = true) : hiC σ e j i (k + 1 - (i + 1)) = sJ (sJ (hiC σ e j i (k - (i + 1))) 7 (upd (cJ (hiC σ e j i (k - (i + 1))) 7) i (imax (cJ (hiC σ e j i (k - (i + 1))) 7 i) (cJ (hiC σ e j i (k - (i + 1))) 7 k + LC σ i k)))) 8 (upd (cJ (hiC σ e j i (k - (i + 1))) 8) k (cJ (hiC σ e j i (k - (i + 1))) 8 k ||| sh1 i)) := by
  rw [show k + 1 - (i + 1) = (k - (i + 1)) + 1 by omega]
  have e1 : cJ (hiC σ e j i (k - (i + 1))) 7 = hIn (TC σ) (LC σ) i (upd (hOut (TC σ) (LC σ) e (cJ σ 7) j) i 0) (k - (i + 1)) := rfl
  have e8 : cJ (hiC σ e j i (k - (i + 1))) 8 = bIn (TC σ) i (upd (bOut (TC σ) e (cJ σ 8) j) i 0) (k - (i + 1)) := rfl
  rw [e1, e8]
  generalize hn : k - (i + 1) = n
  have hk2 : k = i + 1 + n := by omega
  subst hk2
  have e2 : hIn (TC σ) (LC σ) i (upd (hOut (TC σ) (LC σ) e (cJ σ 7) j) i 0) (n + 1) = upd (hIn (TC σ) (LC σ) i (upd (hOut (TC σ) (LC σ) e (cJ σ 7) j) i 0) n) i (imax (hIn (TC σ) (LC σ) i (upd (hOut (TC σ) (LC σ) e (cJ σ 7) j) i 0) n i) (hIn (TC σ) (LC σ) i (upd (hOut (TC σ) (LC σ) e (cJ σ 7) j) i 0) n (i + 1 + n) + LC σ i (i + 1 + n))) := if_pos ht
  have e3 : bIn (TC σ) i (upd (bOut (TC σ) e (cJ σ 8) j) i 0) (n + 1) = upd (bIn (TC σ) i (upd (bOut (TC σ) e (cJ σ 8) j) i 0) n) (i + 1 + n) (bIn (TC σ) i (upd (bOut (TC σ) e (cJ σ 8) j) i 0) n (i + 1 + n) ||| sh1 i) := if_pos ht
  unfold hiC
  rw [e2, e3, sJ_comm (sJ σ 7 _) (k := 8) (j := 7) _ _ (by decide), sJ_sJ, sJ_sJ]
end CFh
set_option maxHeartbeats 4000000 in
set_option maxRecDepth 100000 in
theorem K_Sc_findHeights {l : Launch} {G : GT} (g : GOK l G) (σ : CS) {a e0 : Nat} (ha : a ≤ e0) (he : e0 ≤ 24) (ok : OkO σ) : cx_M l y_Sc_findHeights (.code y_Sc_findHeights b_Sc_findHeights 6 none) 2 44 (gA G) [.ref (gad G 14), .int (nI a), .int (nI e0)] (Cw G σ) (Rv G (fun u => u = hsC σ e0 (e0 - a))) (Tn) := by
  refine cx_of (by decide +kernel) ?_
  intro p e s m below meth c s₁ B hml ht hc
  have hx := B.exec
  have hb := B.bytes
  have hr := B.returns
  have hown : s.vm.findClass R_Sc = some m.cls := findClass_of_methodNamed B.named
  have hlocks := B.notSynchronized
  have hT := g.tb hc
  have hK := g.k hc
  have hD := g.d (σ := σ)
  have hS : va_S (gA G) s.heap s.heap [] := va_S.rf
  have hP := hc.2.2
  have hl := lv_entry ([.ref (gad G 14), .int (nI a), .int (nI e0)]) (n := 6) (Nat.le_of_ble_eq_true rfl)
  rw [lg_entry_eq]
  generalize (lg_sl ([.ref (gad G 14), .int (nI a), .int (nI e0)]) ++ List.replicate (6 - (lg_sl ([.ref (gad G 14), .int (nI a), .int (nI e0)])).length) Slot.unset).toArray = ls at hl ⊢
  have hl : lv_has ls 6 [(0, .ref (gad G 14)), (1, .int (nI a)), (2, .int (nI e0))] := hl
  refine lv_iload_n hx hb d_Sc_findHeights_0 rfl (lv_at hl 2 rfl) ?_
  refine lv_iconst (v := 1) hx hb d_Sc_findHeights_1 (by decide) ?_
  refine lv_isub hx hb d_Sc_findHeights_2 ?_
  refine lv_istore_n (lv' := [(3, .int ((nI e0) - 1)), (0, .ref (gad G 14)), (1, .int (nI a)), (2, .int (nI e0))]) hx hb d_Sc_findHeights_3 rfl hl (by decide) rfl (fun ls hl => ?_)
  have li3 : (((nI e0 - 1) - nI 0) : Int32) = ((nI e0) - 1) := dI_0 e0
  refine W_for (N := (e0 - a)) (fun j H locs ls => va_P (gD G) classes (cw G (hsC σ e0 j)) H ∧ va_S (gA G) s.heap H locs ∧ lv_has ls 6 [(3, .int ((nI e0 - 1) - nI j)), (0, .ref (gad G 14)), (1, .int (nI a)), (2, .int (nI e0))]) (fun ls => F0 m 4 ls []) (fun j H locs ls hj hJ kj => ?_) (fun H locs ls hJ => ?_) 0 _ _ _ (Nat.zero_le _) ⟨by rw [hsC_0]; exact hP, hS, by rw [li3]; exact lv_sub hl [0, 1, 2, 3] rfl⟩
  · obtain ⟨hP, hS, hl⟩ := hJ
    generalize hSj : (hsC σ e0 j) = Sj at hP
    have hD := g.d (σ := Sj)
    obtain ⟨i, hi⟩ : ∃ i, i + 1 + j = e0 := ⟨e0 - 1 - j, by omega⟩
    rw [show nI e0 - 1 - nI j = nI i from dI_eq hi he] at hl
    have ic : (nI i).toNatClampNeg = i := nI_clamp (by omega)
    refine lv_iload_n hx hb d_Sc_findHeights_4 rfl (lv_at hl 0 rfl) ?_
    refine lv_iload_n hx hb d_Sc_findHeights_5 rfl (lv_at hl 2 rfl) ?_
    refine lv_icmp_lt (tgt := 137) hx hb d_Sc_findHeights_6 (by decide) (fun c6 => ?_) (fun c6 => ?_)
    · exact absurd c6 (nI_nl2 (by omega) (by omega))
    · refine lv_aload_n hx hb d_Sc_findHeights_9 rfl (lv_at hl 1 rfl) ?_
      refine va_get (D := gD G) (ci := 5) (v := .ref (gad G 17)) (C := R_Sc) (T := F_Sc) (N := 4) hx hb (wl_Sc hT) (fun _ h9 => h9) hown hK hP 14 rfl rfl 2 (by decide) (k_128 hT) (fun _ h9 => h9) rfl d_Sc_findHeights_10 ?_
      refine lv_iload_n hx hb d_Sc_findHeights_13 rfl (lv_at hl 0 rfl) ?_
      refine lv_iconst (v := 0) hx hb d_Sc_findHeights_14 (by decide) ?_
      refine va_iast (f := (cJ Sj 7)) hx hb hK hP hD hS 17 0 rfl rfl (vp_in_nI (by omega) (by decide)) d_Sc_findHeights_15 (fun H locs hP hD hS => ?_)
      have hP : va_P (gD G) classes (cw G (sJ Sj 7 (upd (cJ Sj 7) (nI i).toNatClampNeg 0))) H := by have h9 := hP; rw [cwS_J7] at h9; exact h9
      have hD : va_D (gA G) (cw G (sJ Sj 7 (upd (cJ Sj 7) (nI i).toNatClampNeg 0))) := g.d
      refine lv_aload_n hx hb d_Sc_findHeights_16 rfl (lv_at hl 1 rfl) ?_
      refine va_get (D := gD G) (ci := 5) (v := .ref (gad G 18)) (C := R_Sc) (T := F_Sc) (N := 4) hx hb (wl_Sc hT) (fun _ h9 => h9) hown hK hP 14 rfl rfl 3 (by decide) (k_129 hT) (fun _ h9 => h9) rfl d_Sc_findHeights_17 ?_
      refine lv_iload_n hx hb d_Sc_findHeights_20 rfl (lv_at hl 0 rfl) ?_
      refine lv_iconst (v := 0) hx hb d_Sc_findHeights_21 (by decide) ?_
      refine va_iast (f := (cJ Sj 8)) hx hb hK hP hD hS 18 0 rfl rfl (vp_in_nI (by omega) (by decide)) d_Sc_findHeights_22 (fun H locs hP hD hS => ?_)
      have hP : va_P (gD G) classes (cw G (sJ (sJ Sj 7 (upd (cJ Sj 7) (nI i).toNatClampNeg 0)) 8 (upd (cJ Sj 8) (nI i).toNatClampNeg 0))) H := by have h9 := hP; rw [cwS_J8] at h9; exact h9
      have hD : va_D (gA G) (cw G (sJ (sJ Sj 7 (upd (cJ Sj 7) (nI i).toNatClampNeg 0)) 8 (upd (cJ Sj 8) (nI i).toNatClampNeg 0))) := g.d
      refine lv_iload_n hx hb d_Sc_findHeights_23 rfl (lv_at hl 0 rfl) ?_
      refine lv_iconst (v := 1) hx hb d_Sc_findHeights_24 (by decide) ?_
      refine lv_iadd hx hb d_Sc_findHeights_25 ?_
      refine lv_istore (lv' := [(4, .int ((nI i) + 1)), (3, .int (nI i)), (0, .ref (gad G 14)), (1, .int (nI a)), (2, .int (nI e0))]) hx hb d_Sc_findHeights_26 hl (by decide) rfl (fun ls hl => ?_)
      have li4 : ((nI (i + 1)) : Int32) = ((nI i) + 1) := (nI_1 _).symm
      refine W_for (N := e0) (fun k H locs ls => (i + 1 ≤ k) ∧ va_P (gD G) classes (cw G (hiC σ e0 j i (k - (i + 1)))) H ∧ va_S (gA G) s.heap H locs ∧ lv_has ls 6 [(4, .int (nI k)), (3, .int (nI i)), (0, .ref (gad G 14)), (1, .int (nI a)), (2, .int (nI e0))]) (fun ls => F0 m 28 ls []) (fun k H locs ls hk hJ kk => ?_) (fun H locs ls hJ => ?_) (i + 1) _ _ _ (by omega) ⟨Nat.le_refl _, by rw [hiC_0 ic, hSj]; exact hP, hS, by rw [li4]; exact lv_sub hl [0, 1, 2, 3, 4] rfl⟩
      · obtain ⟨hek, hP, hS, hl⟩ := hJ
        generalize hSk : (hiC σ e0 j i (k - (i + 1))) = Sk at hP
        have hD := g.d (σ := Sk)
        have kc : (nI k).toNatClampNeg = k := nI_clamp (by omega)
        have eQ8 : cQ Sk = cQ σ := by rw [← hSk]; rfl
        have eP8 : cP Sk = cP σ := by rw [← hSk]; rfl
        have oP : ∀ {x : Int32} {n : Nat}, x.toNatClampNeg = n → n < 24 → (cP Sk 1) x.toNatClampNeg < 24 := fun h1 h2 => by rw [h1, eP8]; exact ok.1 _ h2
        have oQ : ∀ {x : Nat}, x < 24 → vp_in (cQ Sk x 0) 20 := fun h2 => by rw [eQ8]; exact (ok.2 _ h2).1
        refine lv_iload hx hb d_Sc_findHeights_28 (lv_at hl 0 rfl) ?_
        refine lv_iload_n hx hb d_Sc_findHeights_30 rfl (lv_at hl 4 rfl) ?_
        refine lv_icmp_ge (tgt := 131) hx hb d_Sc_findHeights_31 (by decide) (fun c31 => ?_) (fun c31 => ?_)
        · exact absurd c31 (nI_ge hk (by omega))
        · refine lv_aload_n hx hb d_Sc_findHeights_34 rfl (lv_at hl 2 rfl) ?_
          refine va_get (D := gD G) (ci := 5) (v := .ref (gad G 15)) (C := R_Sc) (T := F_Sc) (N := 4) hx hb (wl_Sc hT) (fun _ h9 => h9) hown hK hP 14 rfl rfl 0 (by decide) (k_126 hT) (fun _ h9 => h9) rfl d_Sc_findHeights_35 ?_
          refine lv_iload hx hb d_Sc_findHeights_38 (lv_at hl 0 rfl) ?_
          refine ald_r (v := gia G ((cP Sk 1) (nI k).toNatClampNeg)) hx hb hK hP 15 3 rfl rfl (vp_in_nI (by omega) (by decide)) (if_pos (oP kc (by omega))) d_Sc_findHeights_40 ?_
          refine lv_aload_n hx hb d_Sc_findHeights_41 rfl (lv_at hl 2 rfl) ?_
          refine va_get (D := gD G) (ci := 5) (v := .ref (gad G 15)) (C := R_Sc) (T := F_Sc) (N := 4) hx hb (wl_Sc hT) (fun _ h9 => h9) hown hK hP 14 rfl rfl 0 (by decide) (k_126 hT) (fun _ h9 => h9) rfl d_Sc_findHeights_42 ?_
          refine lv_iload_n hx hb d_Sc_findHeights_45 rfl (lv_at hl 1 rfl) ?_
          refine ald_r (v := gia G ((cP Sk 1) (nI i).toNatClampNeg)) hx hb hK hP 15 3 rfl rfl (vp_in_nI (by omega) (by decide)) (if_pos (oP ic (by omega))) d_Sc_findHeights_46 ?_
          refine cx_V (n := 1) (C := R_In) (As := [.ref (gia G ((cP Sk 1) (nI i).toNatClampNeg))]) (rest := []) ⟨hx, hb, hml, hown, fun _ h9 => nomatch h9⟩ (K_In_mustStayBehind g Sk (oP kc (by omega)) (oP ic (by omega))) (k_256 hT) (k_257 hT) (k_258 hT) (k_259 hT) (k_8 hT) rfl (by decide +kernel) (va_recv hK hP (ci := 3) (q0 := 19 + ((cP Sk 1) (nI k).toNatClampNeg)) rfl (cw_in (oP kc (by omega)))) (hc.at g hS hP) ⟨by decide, by decide⟩ ⟨by decide, by decide⟩ hl.1 (Nat.le_of_ble_eq_true rfl) d_Sc_findHeights_47 (fun _ h9 => h9) hS (fun _ _ _ _ _ _ _ h9 => h9.elim) (fun v t H locs ht9 hRt hz hk hS => ?_)
          obtain ⟨r, u, rfl, ⟨er, eu⟩, hP⟩ := hRt
          subst er
          rw [eu, ht9] at hP
          have hD : va_D (gA G) (cw G Sk) := g.d
          refine W.eq (g2 := F0 m 50 ls [.int (b2i (msbQ (cQ Sk ((cP Sk 1) (nI k).toNatClampNeg)) (cQ Sk ((cP Sk 1) (nI i).toNatClampNeg))))]) rfl ?_
          refine lv_if_eq (tgt := 125) hx hb d_Sc_findHeights_50 (by decide) (fun c50 => ?_) (fun c50 => ?_)
          · have c50 := b2i0 c50
            refine lv_iinc (v := ((nI k) + 1)) (lv' := [(4, .int ((nI k) + 1)), (3, .int (nI i)), (0, .ref (gad G 14)), (1, .int (nI a)), (2, .int (nI e0))]) hx hb d_Sc_findHeights_125 hl (k := 0) rfl rfl (by decide) rfl (fun ls hl => ?_)
            refine lv_goto (tgt := 28) hx hb d_Sc_findHeights_128 (by decide) ?_
            rw [ic, kc, eQ8, eP8] at c50
            have lb4 : ((nI (k + 1)) : Int32) = ((nI k) + 1) := (nI_1 _).symm
            exact kk _ _ _ ⟨(by omega), by rw [hiC_no hek (show TC σ i k = false from c50), hSk]; exact hP, hS, by rw [lb4]; exact lv_sub hl [0, 1, 2, 3, 4] rfl⟩
          · have c50 := b2i1 c50
            refine lv_aload_n hx hb d_Sc_findHeights_53 rfl (lv_at hl 2 rfl) ?_
            refine va_get (D := gD G) (ci := 5) (v := .ref (gad G 15)) (C := R_Sc) (T := F_Sc) (N := 4) hx hb (wl_Sc hT) (fun _ h9 => h9) hown hK hP 14 rfl rfl 0 (by decide) (k_126 hT) (fun _ h9 => h9) rfl d_Sc_findHeights_54 ?_
            refine lv_iload hx hb d_Sc_findHeights_57 (lv_at hl 0 rfl) ?_
            refine ald_r (v := gia G ((cP Sk 1) (nI k).toNatClampNeg)) hx hb hK hP 15 3 rfl rfl (vp_in_nI (by omega) (by decide)) (if_pos (oP kc (by omega))) d_Sc_findHeights_59 ?_
            refine lv_aload_n hx hb d_Sc_findHeights_60 rfl (lv_at hl 2 rfl) ?_
            refine va_get (D := gD G) (ci := 5) (v := .ref (gad G 15)) (C := R_Sc) (T := F_Sc) (N := 4) hx hb (wl_Sc hT) (fun _ h9 => h9) hown hK hP 14 rfl rfl 0 (by decide) (k_126 hT) (fun _ h9 => h9) rfl d_Sc_findHeights_61 ?_
            refine lv_iload_n hx hb d_Sc_findHeights_64 rfl (lv_at hl 1 rfl) ?_
            refine ald_r (v := gia G ((cP Sk 1) (nI i).toNatClampNeg)) hx hb hK hP 15 3 rfl rfl (vp_in_nI (by omega) (by decide)) (if_pos (oP ic (by omega))) d_Sc_findHeights_65 ?_
            refine cx_V (n := 1) (C := R_In) (As := [.ref (gia G ((cP Sk 1) (nI i).toNatClampNeg))]) (rest := []) ⟨hx, hb, hml, hown, fun _ h9 => nomatch h9⟩ (K_In_readsWhatIsWrittenBy g Sk (oP kc (by omega)) (oP ic (by omega))) (k_268 hT) (k_261 hT) (k_262 hT) (k_263 hT) (k_8 hT) rfl (by decide +kernel) (va_recv hK hP (ci := 3) (q0 := 19 + ((cP Sk 1) (nI k).toNatClampNeg)) rfl (cw_in (oP kc (by omega)))) (hc.at g hS hP) ⟨by decide, by decide⟩ ⟨by decide, by decide⟩ hl.1 (Nat.le_of_ble_eq_true rfl) d_Sc_findHeights_66 (fun _ h9 => h9) hS (fun _ _ _ _ _ _ _ h9 => h9.elim) (fun v t H locs ht9 hRt hz hk hS => ?_)
            obtain ⟨r, u, rfl, ⟨er, eu⟩, hP⟩ := hRt
            subst er
            rw [eu, ht9] at hP
            have hD : va_D (gA G) (cw G Sk) := g.d
            refine W.eq (g2 := F0 m 69 ls [.int (b2i (rwQ (cQ Sk ((cP Sk 1) (nI k).toNatClampNeg)) (cQ Sk ((cP Sk 1) (nI i).toNatClampNeg))))]) rfl ?_
            refine lv_if_eq (tgt := 84) hx hb d_Sc_findHeights_69 (by decide) (fun c69 => ?_) (fun c69 => ?_)
            · have c69 := b2i0 c69
              refine lv_iconst (v := 1) hx hb d_Sc_findHeights_84 (by decide) ?_
              refine lv_istore (lv' := [(5, .int 1), (4, .int (nI k)), (3, .int (nI i)), (0, .ref (gad G 14)), (1, .int (nI a)), (2, .int (nI e0))]) hx hb d_Sc_findHeights_85 hl (by decide) rfl (fun ls hl => ?_)
              refine lv_aload_n hx hb d_Sc_findHeights_87 rfl (lv_at hl 3 rfl) ?_
              refine va_get (D := gD G) (ci := 5) (v := .ref (gad G 17)) (C := R_Sc) (T := F_Sc) (N := 4) hx hb (wl_Sc hT) (fun _ h9 => h9) hown hK hP 14 rfl rfl 2 (by decide) (k_128 hT) (fun _ h9 => h9) rfl d_Sc_findHeights_88 ?_
              refine lv_iload_n hx hb d_Sc_findHeights_91 rfl (lv_at hl 2 rfl) ?_
              refine lv_aload_n hx hb d_Sc_findHeights_92 rfl (lv_at hl 3 rfl) ?_
              refine va_get (D := gD G) (ci := 5) (v := .ref (gad G 17)) (C := R_Sc) (T := F_Sc) (N := 4) hx hb (wl_Sc hT) (fun _ h9 => h9) hown hK hP 14 rfl rfl 2 (by decide) (k_128 hT) (fun _ h9 => h9) rfl d_Sc_findHeights_93 ?_
              refine lv_iload_n hx hb d_Sc_findHeights_96 rfl (lv_at hl 2 rfl) ?_
              refine va_iald (f := (cJ Sk 7)) hx hb hK hP 17 0 rfl rfl (vp_in_nI (by omega) (by decide)) d_Sc_findHeights_97 ?_
              refine lv_aload_n hx hb d_Sc_findHeights_98 rfl (lv_at hl 3 rfl) ?_
              refine va_get (D := gD G) (ci := 5) (v := .ref (gad G 17)) (C := R_Sc) (T := F_Sc) (N := 4) hx hb (wl_Sc hT) (fun _ h9 => h9) hown hK hP 14 rfl rfl 2 (by decide) (k_128 hT) (fun _ h9 => h9) rfl d_Sc_findHeights_99 ?_
              refine lv_iload hx hb d_Sc_findHeights_102 (lv_at hl 1 rfl) ?_
              refine va_iald (f := (cJ Sk 7)) hx hb hK hP 17 0 rfl rfl (vp_in_nI (by omega) (by decide)) d_Sc_findHeights_104 ?_
              refine lv_iload hx hb d_Sc_findHeights_105 (lv_at hl 0 rfl) ?_
              refine lv_iadd hx hb d_Sc_findHeights_107 ?_
              refine va_mmax hx hb (by rw [hml]; exact hl.1.symm) hown (k_275 hT) (k_276 hT) (k_16 hT) (k_277 hT) (by decide) (Nat.le_of_ble_eq_true rfl) (by decide) (by decide) d_Sc_findHeights_108 ?_
              refine va_iast (f := (cJ Sk 7)) hx hb hK hP hD hS 17 0 rfl rfl (vp_in_nI (by omega) (by decide)) d_Sc_findHeights_111 (fun H locs hP hD hS => ?_)
              have hP : va_P (gD G) classes (cw G (sJ Sk 7 (upd (cJ Sk 7) (nI i).toNatClampNeg (imax ((cJ Sk 7) (nI i).toNatClampNeg) (((cJ Sk 7) (nI k).toNatClampNeg) + 1))))) H := by have h9 := hP; rw [cwS_J7] at h9; exact h9
              have hD : va_D (gA G) (cw G (sJ Sk 7 (upd (cJ Sk 7) (nI i).toNatClampNeg (imax ((cJ Sk 7) (nI i).toNatClampNeg) (((cJ Sk 7) (nI k).toNatClampNeg) + 1))))) := g.d
              refine lv_aload_n hx hb d_Sc_findHeights_112 rfl (lv_at hl 3 rfl) ?_
              refine va_get (D := gD G) (ci := 5) (v := .ref (gad G 18)) (C := R_Sc) (T := F_Sc) (N := 4) hx hb (wl_Sc hT) (fun _ h9 => h9) hown hK hP 14 rfl rfl 3 (by decide) (k_129 hT) (fun _ h9 => h9) rfl d_Sc_findHeights_113 ?_
              refine lv_iload hx hb d_Sc_findHeights_116 (lv_at hl 1 rfl) ?_
              refine lv_dup2_11 hx hb d_Sc_findHeights_118 rfl rfl ?_
              refine va_iald (f := (cJ Sk 8)) hx hb hK hP 18 0 rfl rfl (vp_in_nI (by omega) (by decide)) d_Sc_findHeights_119 ?_
              refine lv_iconst (v := 1) hx hb d_Sc_findHeights_120 (by decide) ?_
              refine lv_iload_n hx hb d_Sc_findHeights_121 rfl (lv_at hl 2 rfl) ?_
              refine lv_ishl hx hb d_Sc_findHeights_122 ?_
              refine lv_ior hx hb d_Sc_findHeights_123 ?_
              refine va_iast (f := (cJ Sk 8)) hx hb hK hP hD hS 18 0 rfl rfl (vp_in_nI (by omega) (by decide)) d_Sc_findHeights_124 (fun H locs hP hD hS => ?_)
              have hP : va_P (gD G) classes (cw G (sJ (sJ Sk 7 (upd (cJ Sk 7) (nI i).toNatClampNeg (imax ((cJ Sk 7) (nI i).toNatClampNeg) (((cJ Sk 7) (nI k).toNatClampNeg) + 1)))) 8 (upd (cJ Sk 8) (nI k).toNatClampNeg (((cJ Sk 8) (nI k).toNatClampNeg) ||| (1 <<< ((nI i) &&& 31)))))) H := by have h9 := hP; rw [cwS_J8] at h9; exact h9
              have hD : va_D (gA G) (cw G (sJ (sJ Sk 7 (upd (cJ Sk 7) (nI i).toNatClampNeg (imax ((cJ Sk 7) (nI i).toNatClampNeg) (((cJ Sk 7) (nI k).toNatClampNeg) + 1)))) 8 (upd (cJ Sk 8) (nI k).toNatClampNeg (((cJ Sk 8) (nI k).toNatClampNeg) ||| (1 <<< ((nI i) &&& 31)))))) := g.d
              refine lv_iinc (v := ((nI k) + 1)) (lv' := [(4, .int ((nI k) + 1)), (5, .int 1), (3, .int (nI i)), (0, .ref (gad G 14)), (1, .int (nI a)), (2, .int (nI e0))]) hx hb d_Sc_findHeights_125 hl (k := 1) rfl rfl (by decide) rfl (fun ls hl => ?_)
              refine lv_goto (tgt := 28) hx hb d_Sc_findHeights_128 (by decide) ?_
              rw [ic, kc, eQ8, eP8] at c50
              rw [ic, kc, eQ8, eP8] at c69
              have hL : LC σ i k = 1 := if_neg (fun z => Bool.noConfusion (c69.symm.trans z))
              rw [ic, kc] at hP
              have lb4 : ((nI (k + 1)) : Int32) = ((nI k) + 1) := (nI_1 _).symm
              exact kk _ _ _ ⟨(by omega), by rw [hiC_yes hek (show TC σ i k = true from c50), hSk, hL]; exact hP, hS, by rw [lb4]; exact lv_sub hl [0, 2, 3, 4, 5] rfl⟩
            · have c69 := b2i1 c69
              refine lv_aload_n hx hb d_Sc_findHeights_72 rfl (lv_at hl 2 rfl) ?_
              refine va_get (D := gD G) (ci := 5) (v := .ref (gad G 15)) (C := R_Sc) (T := F_Sc) (N := 4) hx hb (wl_Sc hT) (fun _ h9 => h9) hown hK hP 14 rfl rfl 0 (by decide) (k_126 hT) (fun _ h9 => h9) rfl d_Sc_findHeights_73 ?_
              refine lv_iload_n hx hb d_Sc_findHeights_76 rfl (lv_at hl 1 rfl) ?_
              refine ald_r (v := gia G ((cP Sk 1) (nI i).toNatClampNeg)) hx hb hK hP 15 3 rfl rfl (vp_in_nI (by omega) (by decide)) (if_pos (oP ic (by omega))) d_Sc_findHeights_77 ?_
              refine cx_V (n := 0) (C := R_In) (As := []) (rest := []) ⟨hx, hb, hml, hown, fun _ h9 => nomatch h9⟩ (K_In_latency g Sk (oP ic (by omega)) (oQ (oP ic (by omega)))) (k_269 hT) (k_270 hT) (k_271 hT) (k_272 hT) (k_8 hT) rfl (by decide +kernel) (va_recv hK hP (ci := 3) (q0 := 19 + ((cP Sk 1) (nI i).toNatClampNeg)) rfl (cw_in (oP ic (by omega)))) (hc.at g hS hP) ⟨by decide, by decide⟩ ⟨by decide, by decide⟩ hl.1 (Nat.le_of_ble_eq_true rfl) d_Sc_findHeights_78 (fun _ h9 => h9) hS (fun _ _ _ _ _ _ _ h9 => h9.elim) (fun v t H locs ht9 hRt hz hk hS => ?_)
              obtain ⟨r, u, rfl, ⟨er, eu⟩, hP⟩ := hRt
              subst er
              rw [eu, ht9] at hP
              have hD : va_D (gA G) (cw G Sk) := g.d
              refine W.eq (g2 := F0 m 81 ls [.int (latT (cQ Sk ((cP Sk 1) (nI i).toNatClampNeg) 0).toNatClampNeg)]) rfl ?_
              refine lv_goto (tgt := 85) hx hb d_Sc_findHeights_81 (by decide) ?_
              refine lv_istore (lv' := [(5, .int (latT (cQ Sk ((cP Sk 1) (nI i).toNatClampNeg) 0).toNatClampNeg)), (4, .int (nI k)), (3, .int (nI i)), (0, .ref (gad G 14)), (1, .int (nI a)), (2, .int (nI e0))]) hx hb d_Sc_findHeights_85 hl (by decide) rfl (fun ls hl => ?_)
              refine lv_aload_n hx hb d_Sc_findHeights_87 rfl (lv_at hl 3 rfl) ?_
              refine va_get (D := gD G) (ci := 5) (v := .ref (gad G 17)) (C := R_Sc) (T := F_Sc) (N := 4) hx hb (wl_Sc hT) (fun _ h9 => h9) hown hK hP 14 rfl rfl 2 (by decide) (k_128 hT) (fun _ h9 => h9) rfl d_Sc_findHeights_88 ?_
              refine lv_iload_n hx hb d_Sc_findHeights_91 rfl (lv_at hl 2 rfl) ?_
              refine lv_aload_n hx hb d_Sc_findHeights_92 rfl (lv_at hl 3 rfl) ?_
              refine va_get (D := gD G) (ci := 5) (v := .ref (gad G 17)) (C := R_Sc) (T := F_Sc) (N := 4) hx hb (wl_Sc hT) (fun _ h9 => h9) hown hK hP 14 rfl rfl 2 (by decide) (k_128 hT) (fun _ h9 => h9) rfl d_Sc_findHeights_93 ?_
              refine lv_iload_n hx hb d_Sc_findHeights_96 rfl (lv_at hl 2 rfl) ?_
              refine va_iald (f := (cJ Sk 7)) hx hb hK hP 17 0 rfl rfl (vp_in_nI (by omega) (by decide)) d_Sc_findHeights_97 ?_
              refine lv_aload_n hx hb d_Sc_findHeights_98 rfl (lv_at hl 3 rfl) ?_
              refine va_get (D := gD G) (ci := 5) (v := .ref (gad G 17)) (C := R_Sc) (T := F_Sc) (N := 4) hx hb (wl_Sc hT) (fun _ h9 => h9) hown hK hP 14 rfl rfl 2 (by decide) (k_128 hT) (fun _ h9 => h9) rfl d_Sc_findHeights_99 ?_
              refine lv_iload hx hb d_Sc_findHeights_102 (lv_at hl 1 rfl) ?_
              refine va_iald (f := (cJ Sk 7)) hx hb hK hP 17 0 rfl rfl (vp_in_nI (by omega) (by decide)) d_Sc_findHeights_104 ?_
              refine lv_iload hx hb d_Sc_findHeights_105 (lv_at hl 0 rfl) ?_
              refine lv_iadd hx hb d_Sc_findHeights_107 ?_
              refine va_mmax hx hb (by rw [hml]; exact hl.1.symm) hown (k_275 hT) (k_276 hT) (k_16 hT) (k_277 hT) (by decide) (Nat.le_of_ble_eq_true rfl) (by decide) (by decide) d_Sc_findHeights_108 ?_
              refine va_iast (f := (cJ Sk 7)) hx hb hK hP hD hS 17 0 rfl rfl (vp_in_nI (by omega) (by decide)) d_Sc_findHeights_111 (fun H locs hP hD hS => ?_)
              have hP : va_P (gD G) classes (cw G (sJ Sk 7 (upd (cJ Sk 7) (nI i).toNatClampNeg (imax ((cJ Sk 7) (nI i).toNatClampNeg) (((cJ Sk 7) (nI k).toNatClampNeg) + (latT (cQ Sk ((cP Sk 1) (nI i).toNatClampNeg) 0).toNatClampNeg)))))) H := by have h9 := hP; rw [cwS_J7] at h9; exact h9
              have hD : va_D (gA G) (cw G (sJ Sk 7 (upd (cJ Sk 7) (nI i).toNatClampNeg (imax ((cJ Sk 7) (nI i).toNatClampNeg) (((cJ Sk 7) (nI k).toNatClampNeg) + (latT (cQ Sk ((cP Sk 1) (nI i).toNatClampNeg) 0).toNatClampNeg)))))) := g.d
              refine lv_aload_n hx hb d_Sc_findHeights_112 rfl (lv_at hl 3 rfl) ?_
              refine va_get (D := gD G) (ci := 5) (v := .ref (gad G 18)) (C := R_Sc) (T := F_Sc) (N := 4) hx hb (wl_Sc hT) (fun _ h9 => h9) hown hK hP 14 rfl rfl 3 (by decide) (k_129 hT) (fun _ h9 => h9) rfl d_Sc_findHeights_113 ?_
              refine lv_iload hx hb d_Sc_findHeights_116 (lv_at hl 1 rfl) ?_
              refine lv_dup2_11 hx hb d_Sc_findHeights_118 rfl rfl ?_
              refine va_iald (f := (cJ Sk 8)) hx hb hK hP 18 0 rfl rfl (vp_in_nI (by omega) (by decide)) d_Sc_findHeights_119 ?_
              refine lv_iconst (v := 1) hx hb d_Sc_findHeights_120 (by decide) ?_
              refine lv_iload_n hx hb d_Sc_findHeights_121 rfl (lv_at hl 2 rfl) ?_
              refine lv_ishl hx hb d_Sc_findHeights_122 ?_
              refine lv_ior hx hb d_Sc_findHeights_123 ?_
              refine va_iast (f := (cJ Sk 8)) hx hb hK hP hD hS 18 0 rfl rfl (vp_in_nI (by omega) (by decide)) d_Sc_findHeights_124 (fun H locs hP hD hS => ?_)
              have hP : va_P (gD G) classes (cw G (sJ (sJ Sk 7 (upd (cJ Sk 7) (nI i).toNatClampNeg (imax ((cJ Sk 7) (nI i).toNatClampNeg) (((cJ Sk 7) (nI k).toNatClampNeg) + (latT (cQ Sk ((cP Sk 1) (nI i).toNatClampNeg) 0).toNatClampNeg))))) 8 (upd (cJ Sk 8) (nI k).toNatClampNeg (((cJ Sk 8) (nI k).toNatClampNeg) ||| (1 <<< ((nI i) &&& 31)))))) H := by have h9 := hP; rw [cwS_J8] at h9; exact h9
              have hD : va_D (gA G) (cw G (sJ (sJ Sk 7 (upd (cJ Sk 7) (nI i).toNatClampNeg (imax ((cJ Sk 7) (nI i).toNatClampNeg) (((cJ Sk 7) (nI k).toNatClampNeg) + (latT (cQ Sk ((cP Sk 1) (nI i).toNatClampNeg) 0).toNatClampNeg))))) 8 (upd (cJ Sk 8) (nI k).toNatClampNeg (((cJ Sk 8) (nI k).toNatClampNeg) ||| (1 <<< ((nI i) &&& 31)))))) := g.d
              refine lv_iinc (v := ((nI k) + 1)) (lv' := [(4, .int ((nI k) + 1)), (5, .int (latT (cQ Sk ((cP Sk 1) (nI i).toNatClampNeg) 0).toNatClampNeg)), (3, .int (nI i)), (0, .ref (gad G 14)), (1, .int (nI a)), (2, .int (nI e0))]) hx hb d_Sc_findHeights_125 hl (k := 1) rfl rfl (by decide) rfl (fun ls hl => ?_)
              refine lv_goto (tgt := 28) hx hb d_Sc_findHeights_128 (by decide) ?_
              rw [ic, kc, eQ8, eP8] at c50
              rw [ic, kc, eQ8, eP8] at c69
              have hL : LC σ i k = (latT (cQ Sk ((cP Sk 1) i) 0).toNatClampNeg) := by rw [eQ8, eP8]; exact if_pos c69
              rw [ic, kc] at hP
              have lb4 : ((nI (k + 1)) : Int32) = ((nI k) + 1) := (nI_1 _).symm
              exact kk _ _ _ ⟨(by omega), by rw [hiC_yes hek (show TC σ i k = true from c50), hSk, hL]; exact hP, hS, by rw [lb4]; exact lv_sub hl [0, 2, 3, 4, 5] rfl⟩
      · obtain ⟨hek, hP, hS, hl⟩ := hJ
        generalize hSk : (hiC σ e0 j i (e0 - (i + 1))) = Sk at hP
        have hD := g.d (σ := Sk)
        refine lv_iload hx hb d_Sc_findHeights_28 (lv_at hl 0 rfl) ?_
        refine lv_iload_n hx hb d_Sc_findHeights_30 rfl (lv_at hl 4 rfl) ?_
        refine lv_icmp_ge (tgt := 131) hx hb d_Sc_findHeights_31 (by decide) (fun c31 => ?_) (fun c31 => ?_)
        · refine lv_iinc (v := ((nI i) + (-1))) (lv' := [(3, .int ((nI i) + (-1))), (4, .int (nI e0)), (0, .ref (gad G 14)), (1, .int (nI a)), (2, .int (nI e0))]) hx hb d_Sc_findHeights_131 hl (k := 1) rfl rfl (by decide) rfl (fun ls hl => ?_)
          refine lv_goto (tgt := 4) hx hb d_Sc_findHeights_134 (by decide) ?_
          have lb3 : (((nI e0 - 1) - nI (j + 1)) : Int32) = ((nI i) + (-1)) := dI_dec hi he
          exact kj _ _ _ ⟨by rw [hsC_s hi, hSk]; exact hP, hS, by rw [lb3]; exact lv_sub hl [0, 2, 3, 4] rfl⟩
        · exact absurd (nI_le (Nat.le_refl _) (by omega)) c31
  · obtain ⟨hP, hS, hl⟩ := hJ
    generalize hSj : (hsC σ e0 (e0 - a)) = Sj at hP
    have hD := g.d (σ := Sj)
    refine lv_iload_n hx hb d_Sc_findHeights_4 rfl (lv_at hl 0 rfl) ?_
    refine lv_iload_n hx hb d_Sc_findHeights_5 rfl (lv_at hl 2 rfl) ?_
    refine lv_icmp_lt (tgt := 137) hx hb d_Sc_findHeights_6 (by decide) (fun c6 => ?_) (fun c6 => ?_)
    · exact end_v (u := Sj) hx hb hr hlocks hS hP d_Sc_findHeights_137 (by rw [← hSj])
    · exact absurd (dI_lt ha he) c6

section CEnd
def insC (σ : CS) (k : Nat) : Bool := !endQ (QO σ k)
def ldC (σ : CS) (k : Nat) : Bool := !decide (cJ σ 6 k = 0)
theorem okC_yes {σ : CS} {i k : Nat} (h1 : endQ (QO σ k) = false) (h3 : k = i ∨ cJ σ 6 k = 0) : okE (insC σ) (ldC σ) i k = true := by
  unfold okE insC ldC
  rw [h1, if_pos (show (!false) = true from rfl)]
  by_cases e : k = i
  · rw [if_pos e]
  · rw [if_neg e, decide_eq_true (h3.resolve_left e)]; rfl
theorem okC_no {σ : CS} {i k : Nat} (h : okE (insC σ) (ldC σ) i k = true) : endQ (QO σ k) = false ∧ (k = i ∨ cJ σ 6 k = 0) := by
  unfold okE insC ldC at h
  cases hq : endQ (QO σ k) with
  | true => rw [hq, if_neg (by decide)] at h; cases h
  | false =>
    rw [hq, if_pos (show (!false) = true from rfl)] at h
    refine ⟨rfl, ?_⟩
    by_cases e : k = i
    · exact Or.inl e
    · rw [if_neg e] at h
      right
      by_cases z : cJ σ 6 k = 0
      · exact z
      · rw [decide_eq_false z] at h; cases h
end CEnd
set_option maxHeartbeats 4000000 in
set_option maxRecDepth 100000 in
theorem K_Sc_endOfBlock {l : Launch} {G : GT} (g : GOK l G) (σ : CS) {a : Nat} (ha : a < 24) (ok : OkO σ) : cx_M l y_Sc_endOfBlock (.code y_Sc_endOfBlock b_Sc_endOfBlock 3 (some .int)) 2 40 (gA G) [.ref (gad G 14), .int (nI a)] (Cw G σ) (Ri G (fun r u => r = nI (enE (insC σ) (ldC σ) a) ∧ u = σ)) (Tn) := by
  refine cx_of (by decide +kernel) ?_
  intro p e s m below meth c s₁ B hml ht hc
  have hx := B.exec
  have hb := B.bytes
  have hr := B.returns
  have hown : s.vm.findClass R_Sc = some m.cls := findClass_of_methodNamed B.named
  have hlocks := B.notSynchronized
  have hT := g.tb hc
  have hK := g.k hc
  have hD := g.d (σ := σ)
  have hS : va_S (gA G) s.heap s.heap [] := va_S.rf
  have hP := hc.2.2
  have hl := lv_entry ([.ref (gad G 14), .int (nI a)]) (n := 3) (Nat.le_of_ble_eq_true rfl)
  rw [lg_entry_eq]
  generalize (lg_sl ([.ref (gad G 14), .int (nI a)]) ++ List.replicate (3 - (lg_sl ([.ref (gad G 14), .int (nI a)])).length) Slot.unset).toArray = ls at hl ⊢
  have hl : lv_has ls 3 [(0, .ref (gad G 14)), (1, .int (nI a))] := hl
  obtain ⟨e0, hE0⟩ : ∃ e0, e0 = enE (insC σ) (ldC σ) a := ⟨_, rfl⟩
  obtain ⟨hE1, hE2, hE3, hE4⟩ := enE_spec (insC σ) (ldC σ) (i := a) (by omega)
  rw [← hE0] at hE1 hE2 hE3 hE4
  have ec : (nI e0).toNatClampNeg = e0 := nI_clamp (by omega)
  refine lv_iload_n hx hb d_Sc_endOfBlock_0 rfl (lv_at hl 1 rfl) ?_
  refine lv_istore_n (lv' := [(2, .int (nI a)), (0, .ref (gad G 14)), (1, .int (nI a))]) hx hb d_Sc_endOfBlock_1 rfl hl (by decide) rfl (fun ls hl => ?_)
  refine W_for (N := e0) (fun j H locs ls => (a ≤ j) ∧ va_P (gD G) classes (cw G σ) H ∧ va_S (gA G) s.heap H locs ∧ lv_has ls 3 [(2, .int (nI j)), (0, .ref (gad G 14)), (1, .int (nI a))]) (fun ls => F0 m 2 ls []) (fun j H locs ls hj hJ kj => ?_) (fun H locs ls hJ => ?_) a _ _ _ hE1 ⟨Nat.le_refl _, hP, hS, by exact lv_sub hl [0, 1, 2] rfl⟩
  · obtain ⟨hej, hP, hS, hl⟩ := hJ
    have hD := g.d (σ := σ)
    have jc : (nI j).toNatClampNeg = j := nI_clamp (by omega)
    have hok := okC_no (hE3 j hej hj)
    refine lv_iload_n hx hb d_Sc_endOfBlock_2 rfl (lv_at hl 0 rfl) ?_
    refine lv_bipush (v := 24) hx hb d_Sc_endOfBlock_3 (by decide) ?_
    refine lv_icmp_ge (tgt := 40) hx hb d_Sc_endOfBlock_5 (by decide) (fun c5 => ?_) (fun c5 => ?_)
    · exact absurd c5 (nI_ge (a := j) (b := 24) (by omega) (by decide))
    · refine lv_aload_n hx hb d_Sc_endOfBlock_8 rfl (lv_at hl 1 rfl) ?_
      refine va_get (D := gD G) (ci := 5) (v := .ref (gad G 15)) (C := R_Sc) (T := F_Sc) (N := 4) hx hb (wl_Sc hT) (fun _ h9 => h9) hown hK hP 14 rfl rfl 0 (by decide) (k_126 hT) (fun _ h9 => h9) rfl d_Sc_endOfBlock_9 ?_
      refine lv_iload_n hx hb d_Sc_endOfBlock_12 rfl (lv_at hl 0 rfl) ?_
      refine ald_r (v := gia G ((cP σ 1) (nI j).toNatClampNeg)) hx hb hK hP 15 3 rfl rfl (vp_in_nI (by omega) (by decide)) (if_pos (by rw [jc]; exact ok.1 _ (by omega))) d_Sc_endOfBlock_13 ?_
      refine cx_V (n := 0) (C := R_In) (As := []) (rest := []) ⟨hx, hb, hml, hown, fun _ h9 => nomatch h9⟩ (K_In_endsBlock g σ (by rw [jc]; exact ok.1 _ (by omega))) (k_228 hT) (k_229 hT) (k_230 hT) (k_231 hT) (k_8 hT) rfl (by decide +kernel) (va_recv hK hP (ci := 3) (q0 := 19 + ((cP σ 1) (nI j).toNatClampNeg)) rfl (cw_in (by rw [jc]; exact ok.1 _ (by omega)))) (hc.at g hS hP) ⟨by decide, by decide⟩ ⟨by decide, by decide⟩ hl.1 (Nat.le_of_ble_eq_true rfl) d_Sc_endOfBlock_14 (fun _ h9 => h9) hS (fun _ _ _ _ _ _ _ h9 => h9.elim) (fun v t H locs ht9 hRt hz hk hS => ?_)
      obtain ⟨r, u, rfl, ⟨er, eu⟩, hP⟩ := hRt
      subst er
      rw [eu, ht9] at hP
      have hD : va_D (gA G) (cw G σ) := g.d
      refine W.eq (g2 := F0 m 17 ls [.int (b2i (endQ (cQ σ ((cP σ 1) (nI j).toNatClampNeg))))]) rfl ?_
      refine lv_if_ne (tgt := 40) hx hb d_Sc_endOfBlock_17 (by decide) (fun c17 => ?_) (fun c17 => ?_)
      · exact absurd (b2i1 c17) (by rw [jc]; exact (by rw [show endQ (cQ σ (cP σ 1 j)) = false from hok.1]; decide))
      · have c17 := b2i0 c17
        refine lv_iload_n hx hb d_Sc_endOfBlock_20 rfl (lv_at hl 0 rfl) ?_
        refine lv_iload_n hx hb d_Sc_endOfBlock_21 rfl (lv_at hl 2 rfl) ?_
        refine lv_icmp_eq (tgt := 34) hx hb d_Sc_endOfBlock_22 (by decide) (fun c22 => ?_) (fun c22 => ?_)
        · refine lv_iinc (v := ((nI j) + 1)) (lv' := [(2, .int ((nI j) + 1)), (0, .ref (gad G 14)), (1, .int (nI a))]) hx hb d_Sc_endOfBlock_34 hl (k := 0) rfl rfl (by decide) rfl (fun ls hl => ?_)
          refine lv_goto (tgt := 2) hx hb d_Sc_endOfBlock_37 (by decide) ?_
          have lb2 : ((nI (j + 1)) : Int32) = ((nI j) + 1) := (nI_1 _).symm
          exact kj _ _ _ ⟨(by omega), hP, hS, by rw [lb2]; exact lv_sub hl [0, 1, 2] rfl⟩
        · refine lv_aload_n hx hb d_Sc_endOfBlock_25 rfl (lv_at hl 1 rfl) ?_
          refine va_get (D := gD G) (ci := 5) (v := .ref (gad G 16)) (C := R_Sc) (T := F_Sc) (N := 4) hx hb (wl_Sc hT) (fun _ h9 => h9) hown hK hP 14 rfl rfl 1 (by decide) (k_127 hT) (fun _ h9 => h9) rfl d_Sc_endOfBlock_26 ?_
          refine lv_iload_n hx hb d_Sc_endOfBlock_29 rfl (lv_at hl 0 rfl) ?_
          refine va_zald (f := (cJ σ 6)) hx hb hK hP 16 2 rfl rfl (vp_in_nI (by omega) (by decide)) d_Sc_endOfBlock_30 ?_
          refine lv_if_ne (tgt := 40) hx hb d_Sc_endOfBlock_31 (by decide) (fun c31 => ?_) (fun c31 => ?_)
          · exact absurd (show cJ σ 6 (nI j).toNatClampNeg = 0 by rw [jc]; exact hok.2.resolve_left (fun z => c22 (by rw [z]))) c31
          · refine lv_iinc (v := ((nI j) + 1)) (lv' := [(2, .int ((nI j) + 1)), (0, .ref (gad G 14)), (1, .int (nI a))]) hx hb d_Sc_endOfBlock_34 hl (k := 0) rfl rfl (by decide) rfl (fun ls hl => ?_)
            refine lv_goto (tgt := 2) hx hb d_Sc_endOfBlock_37 (by decide) ?_
            have lb2 : ((nI (j + 1)) : Int32) = ((nI j) + 1) := (nI_1 _).symm
            exact kj _ _ _ ⟨(by omega), hP, hS, by rw [lb2]; exact lv_sub hl [0, 1, 2] rfl⟩
  · obtain ⟨hej, hP, hS, hl⟩ := hJ
    have hD := g.d (σ := σ)
    refine lv_iload_n hx hb d_Sc_endOfBlock_2 rfl (lv_at hl 0 rfl) ?_
    refine lv_bipush (v := 24) hx hb d_Sc_endOfBlock_3 (by decide) ?_
    refine lv_icmp_ge (tgt := 40) hx hb d_Sc_endOfBlock_5 (by decide) (fun c5 => ?_) (fun c5 => ?_)
    · refine lv_iload_n hx hb d_Sc_endOfBlock_40 rfl (lv_at hl 0 rfl) ?_
      exact end_i (u := σ) hx hb hr hlocks hS hP d_Sc_endOfBlock_41 (⟨by rw [hE0], rfl⟩)
    · have h24 : e0 < 24 := Nat.lt_of_not_le (fun z => c5 (nI_le (a := 24) (b := e0) z (by omega)))
      refine lv_aload_n hx hb d_Sc_endOfBlock_8 rfl (lv_at hl 1 rfl) ?_
      refine va_get (D := gD G) (ci := 5) (v := .ref (gad G 15)) (C := R_Sc) (T := F_Sc) (N := 4) hx hb (wl_Sc hT) (fun _ h9 => h9) hown hK hP 14 rfl rfl 0 (by decide) (k_126 hT) (fun _ h9 => h9) rfl d_Sc_endOfBlock_9 ?_
      refine lv_iload_n hx hb d_Sc_endOfBlock_12 rfl (lv_at hl 0 rfl) ?_
      refine ald_r (v := gia G ((cP σ 1) (nI e0).toNatClampNeg)) hx hb hK hP 15 3 rfl rfl (vp_in_nI (by omega) (by decide)) (if_pos (by rw [ec]; exact ok.1 _ h24)) d_Sc_endOfBlock_13 ?_
      refine cx_V (n := 0) (C := R_In) (As := []) (rest := []) ⟨hx, hb, hml, hown, fun _ h9 => nomatch h9⟩ (K_In_endsBlock g σ (by rw [ec]; exact ok.1 _ h24)) (k_228 hT) (k_229 hT) (k_230 hT) (k_231 hT) (k_8 hT) rfl (by decide +kernel) (va_recv hK hP (ci := 3) (q0 := 19 + ((cP σ 1) (nI e0).toNatClampNeg)) rfl (cw_in (by rw [ec]; exact ok.1 _ h24))) (hc.at g hS hP) ⟨by decide, by decide⟩ ⟨by decide, by decide⟩ hl.1 (Nat.le_of_ble_eq_true rfl) d_Sc_endOfBlock_14 (fun _ h9 => h9) hS (fun _ _ _ _ _ _ _ h9 => h9.elim) (fun v t H locs ht9 hRt hz hk hS => ?_)
      obtain ⟨r, u, rfl, ⟨er, eu⟩, hP⟩ := hRt
      subst er
      rw [eu, ht9] at hP
      have hD : va_D (gA G) (cw G σ) := g.d
      refine W.eq (g2 := F0 m 17 ls [.int (b2i (endQ (cQ σ ((cP σ 1) (nI e0).toNatClampNeg))))]) rfl ?_
      refine lv_if_ne (tgt := 40) hx hb d_Sc_endOfBlock_17 (by decide) (fun c17 => ?_) (fun c17 => ?_)
      · have c17 := b2i1 c17
        refine lv_iload_n hx hb d_Sc_endOfBlock_40 rfl (lv_at hl 0 rfl) ?_
        exact end_i (u := σ) hx hb hr hlocks hS hP d_Sc_endOfBlock_41 (⟨by rw [hE0], rfl⟩)
      · have c17 := b2i0 c17
        refine lv_iload_n hx hb d_Sc_endOfBlock_20 rfl (lv_at hl 0 rfl) ?_
        refine lv_iload_n hx hb d_Sc_endOfBlock_21 rfl (lv_at hl 2 rfl) ?_
        refine lv_icmp_eq (tgt := 34) hx hb d_Sc_endOfBlock_22 (by decide) (fun c22 => ?_) (fun c22 => ?_)
        · have k9 := okC_yes (σ := σ) (i := a) (k := e0) (by rw [ec] at c17; exact c17) (Or.inl (nI_inj (by omega) (by omega) c22))
          rw [hE4 h24] at k9
          cases k9
        · refine lv_aload_n hx hb d_Sc_endOfBlock_25 rfl (lv_at hl 1 rfl) ?_
          refine va_get (D := gD G) (ci := 5) (v := .ref (gad G 16)) (C := R_Sc) (T := F_Sc) (N := 4) hx hb (wl_Sc hT) (fun _ h9 => h9) hown hK hP 14 rfl rfl 1 (by decide) (k_127 hT) (fun _ h9 => h9) rfl d_Sc_endOfBlock_26 ?_
          refine lv_iload_n hx hb d_Sc_endOfBlock_29 rfl (lv_at hl 0 rfl) ?_
          refine va_zald (f := (cJ σ 6)) hx hb hK hP 16 2 rfl rfl (vp_in_nI (by omega) (by decide)) d_Sc_endOfBlock_30 ?_
          refine lv_if_ne (tgt := 40) hx hb d_Sc_endOfBlock_31 (by decide) (fun c31 => ?_) (fun c31 => ?_)
          · refine lv_iload_n hx hb d_Sc_endOfBlock_40 rfl (lv_at hl 0 rfl) ?_
            exact end_i (u := σ) hx hb hr hlocks hS hP d_Sc_endOfBlock_41 (⟨by rw [hE0], rfl⟩)
          · have k9 := okC_yes (σ := σ) (i := a) (k := e0) (by rw [ec] at c17; exact c17) (Or.inr (by rw [ec] at c31; exact c31))
            rw [hE4 h24] at k9
            cases k9

