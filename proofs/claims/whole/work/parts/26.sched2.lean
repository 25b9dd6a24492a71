/-! CONTRACTS: the Scheduler's findLeaders, reorderBlock, reorder; schedule -/
section CLd
def l1B (σ : CS) (k : Nat) : Bool := if k = 0 then true else endQ (QO σ (k - 1))
def l1A (σ : CS) (f : Nat → Int32) (j : Nat) : Nat → Int32 := fun k => if k < j then b2i (l1B σ k) else f k
def l2A (σ : CS) (f : Nat → Int32) : Nat → Nat → Int32
  | 0 => f
  | n + 1 => if tgtQ (QO σ n) then upd (l2A σ f n) (ix (flm (QO σ n 4) 24)) 1 else l2A σ f n
theorem l1_0 (σ : CS) (f : Nat → Int32) : l1A σ f 0 = f := by funext k; unfold l1A; rw [if_neg (Nat.not_lt_zero k)]
theorem l1_up {σ : CS} {f : Nat → Int32} {j : Nat} {v : Int32} (hv : v = b2i (l1B σ j)) : l1A σ f (j + 1) = upd (l1A σ f j) j v := by
  funext k
  unfold upd l1A
  by_cases e : k = j
  · rw [if_pos e, if_pos (by omega), hv, e]
  · rw [if_neg e]
    by_cases h : k < j
    · rw [if_pos h, if_pos (by omega)]
    · rw [if_neg h, if_neg (by omega)]
theorem l2_y {σ : CS} {f : Nat → Int32} {j : Nat} (h : tgtQ (QO σ j) = true) : l2A σ f (j + 1) = upd (l2A σ f j) (ix (flm (QO σ j 4) 24)) 1 := if_pos h
theorem l2_n {σ : CS} {f : Nat → Int32} {j : Nat} (h : tgtQ (QO σ j) = false) : l2A σ f (j + 1) = l2A σ f j := if_neg (by rw [h]; decide)
def ldA (σ : CS) : Nat → Int32 := l2A σ (l1A σ (cJ σ 6) 24) 24
end CLd
set_option maxHeartbeats 4000000 in
set_option maxRecDepth 100000 in
theorem K_Sc_findLeaders {l : Launch} {G : GT} (g : GOK l G) (σ : CS) (ok : OkO σ) : cx_M l y_Sc_findLeaders (.code y_Sc_findLeaders b_Sc_findLeaders 2 none) 2 42 (gA G) [.ref (gad G 14)] (Cw G σ) (Rv G (fun u => u = sJ σ 6 (ldA σ))) (Tn) := by
  refine cx_of (by decide +kernel) ?_
  intro p e s m below meth c s₁ B hml ht hc
  have hx := B.exec
  have hb := B.bytes
  have hr := B.returns
  have hown : s.vm.findClass R_Sc = some m.cls := findClass_of_methodNamed B.named
  have hlocks := B.notSynchronized
  have hT := g.tb hc
  have hK := g.k hc
  have hD := g.d (σ := σ)
  have hS : va_S (gA G) s.heap s.heap [] := va_S.rf
  have hP := hc.2.2
  have hl := lv_entry ([.ref (gad G 14)]) (n := 2) (Nat.le_of_ble_eq_true rfl)
  rw [lg_entry_eq]
  generalize (lg_sl ([.ref (gad G 14)]) ++ List.replicate (2 - (lg_sl ([.ref (gad G 14)])).length) Slot.unset).toArray = ls at hl ⊢
  have hl : lv_has ls 2 [(0, .ref (gad G 14))] := hl
  refine lv_iconst (v := 0) hx hb d_Sc_findLeaders_0 (by decide) ?_
  refine lv_istore_n (lv' := [(1, .int 0), (0, .ref (gad G 14))]) hx hb d_Sc_findLeaders_1 rfl hl (by decide) rfl (fun ls hl => ?_)
  have li1 : ((nI 0) : Int32) = 0 := nI_0
  refine W_for (N := 24) (fun j H locs ls => va_P (gD G) classes (cw G (sJ σ 6 (l1A σ (cJ σ 6) j))) H ∧ va_S (gA G) s.heap H locs ∧ lv_has ls 2 [(1, .int (nI j)), (0, .ref (gad G 14))]) (fun ls => F0 m 2 ls []) (fun j H locs ls hj hJ kj => ?_) (fun H locs ls hJ => ?_) 0 _ _ _ (Nat.zero_le _) ⟨by rw [l1_0, sJ_self]; exact hP, hS, by rw [li1]; exact lv_sub hl [0, 1] rfl⟩
  · obtain ⟨hP, hS, hl⟩ := hJ
    generalize hSj : (sJ σ 6 (l1A σ (cJ σ 6) j)) = Sj at hP
    have hD := g.d (σ := Sj)
    have jc : (nI j).toNatClampNeg = j := nI_clamp (by omega)
    have eQ8 : cQ Sj = cQ σ := by rw [← hSj]; rfl
    have eP8 : cP Sj = cP σ := by rw [← hSj]; rfl
    refine lv_iload_n hx hb d_Sc_findLeaders_2 rfl (lv_at hl 0 rfl) ?_
    refine lv_bipush (v := 24) hx hb d_Sc_findLeaders_3 (by decide) ?_
    refine lv_icmp_ge (tgt := 43) hx hb d_Sc_findLeaders_5 (by decide) (fun c5 => ?_) (fun c5 => ?_)
    · exact absurd c5 (nI_ge hj (by decide))
    · refine lv_aload_n hx hb d_Sc_findLeaders_8 rfl (lv_at hl 1 rfl) ?_
      refine va_get (D := gD G) (ci := 5) (v := .ref (gad G 16)) (C := R_Sc) (T := F_Sc) (N := 4) hx hb (wl_Sc hT) (fun _ h9 => h9) hown hK hP 14 rfl rfl 1 (by decide) (k_127 hT) (fun _ h9 => h9) rfl d_Sc_findLeaders_9 ?_
      refine lv_iload_n hx hb d_Sc_findLeaders_12 rfl (lv_at hl 0 rfl) ?_
      refine lv_iload_n hx hb d_Sc_findLeaders_13 rfl (lv_at hl 0 rfl) ?_
      refine lv_if_eq (tgt := 31) hx hb d_Sc_findLeaders_14 (by decide) (fun c14 => ?_) (fun c14 => ?_)
      · refine lv_iconst (v := 1) hx hb d_Sc_findLeaders_31 (by decide) ?_
        refine lv_goto (tgt := 36) hx hb d_Sc_findLeaders_32 (by decide) ?_
        refine va_zast (f := (cJ Sj 6)) hx hb hK hP hD hS 16 2 rfl rfl (vp_in_nI hj (by decide)) d_Sc_findLeaders_36 (fun H locs hP hD hS => ?_)
        have hP : va_P (gD G) classes (cw G (sJ Sj 6 (upd (cJ Sj 6) (nI j).toNatClampNeg 1))) H := by have h9 := hP; rw [cwS_J6] at h9; exact h9
        have hD : va_D (gA G) (cw G (sJ Sj 6 (upd (cJ Sj 6) (nI j).toNatClampNeg 1))) := g.d
        refine lv_iinc (v := ((nI j) + 1)) (lv' := [(1, .int ((nI j) + 1)), (0, .ref (gad G 14))]) hx hb d_Sc_findLeaders_37 hl (k := 0) rfl rfl (by decide) rfl (fun ls hl => ?_)
        refine lv_goto (tgt := 2) hx hb d_Sc_findLeaders_40 (by decide) ?_
        have lb1 : ((nI (j + 1)) : Int32) = ((nI j) + 1) := (nI_1 _).symm
        exact kj _ _ _ ⟨by rw [l1_up (v := 1) (by unfold l1B; rw [if_pos ((nI_z hj).mp c14)]; rfl), ← sJ_sJ σ 6 (l1A σ (cJ σ 6) j), hSj]; rw [jc, show cJ Sj 6 = l1A σ (cJ σ 6) j by rw [← hSj]; rfl] at hP; exact hP, hS, by rw [lb1]; exact lv_sub hl [0, 1] rfl⟩
      · refine lv_aload_n hx hb d_Sc_findLeaders_17 rfl (lv_at hl 1 rfl) ?_
        refine va_get (D := gD G) (ci := 5) (v := .ref (gad G 15)) (C := R_Sc) (T := F_Sc) (N := 4) hx hb (wl_Sc hT) (fun _ h9 => h9) hown hK hP 14 rfl rfl 0 (by decide) (k_126 hT) (fun _ h9 => h9) rfl d_Sc_findLeaders_18 ?_
        refine lv_iload_n hx hb d_Sc_findLeaders_21 rfl (lv_at hl 0 rfl) ?_
        refine lv_iconst (v := 1) hx hb d_Sc_findLeaders_22 (by decide) ?_
        refine lv_isub hx hb d_Sc_findLeaders_23 ?_
        refine ald_r (v := gia G ((cP Sj 1) ((nI j) - 1).toNatClampNeg)) hx hb hK hP 15 3 rfl rfl (sub1_in hj c14) (if_pos (by rw [sub1_c hj c14, eP8]; exact ok.1 _ (by omega))) d_Sc_findLeaders_24 ?_
        refine cx_V (n := 0) (C := R_In) (As := []) (rest := [.int (nI j), .ref (gad G 16)]) ⟨hx, hb, hml, hown, fun _ h9 => nomatch h9⟩ (K_In_endsBlock g Sj (by rw [sub1_c hj c14, eP8]; exact ok.1 _ (by omega))) (k_228 hT) (k_229 hT) (k_230 hT) (k_231 hT) (k_8 hT) rfl (by decide +kernel) (va_recv hK hP (ci := 3) (q0 := 19 + ((cP Sj 1) ((nI j) - 1).toNatClampNeg)) rfl (cw_in (by rw [sub1_c hj c14, eP8]; exact ok.1 _ (by omega)))) (hc.at g hS hP) ⟨by decide, by decide⟩ ⟨by decide, by decide⟩ hl.1 (Nat.le_of_ble_eq_true rfl) d_Sc_findLeaders_25 (fun _ h9 => h9) hS (fun _ _ _ _ _ _ _ h9 => h9.elim) (fun v t H locs ht9 hRt hz hk hS => ?_)
        obtain ⟨r, u, rfl, ⟨er, eu⟩, hP⟩ := hRt
        subst er
        rw [eu, ht9] at hP
        have hD : va_D (gA G) (cw G Sj) := g.d
        refine W.eq (g2 := F0 m 28 ls [.int (b2i (endQ (cQ Sj ((cP Sj 1) ((nI j) - 1).toNatClampNeg)))), .int (nI j), .ref (gad G 16)]) rfl ?_
        refine lv_if_eq (tgt := 35) hx hb d_Sc_findLeaders_28 (by decide) (fun c28 => ?_) (fun c28 => ?_)
        · have c28 := b2i0 c28
          refine lv_iconst (v := 0) hx hb d_Sc_findLeaders_35 (by decide) ?_
          refine va_zast (f := (cJ Sj 6)) hx hb hK hP hD hS 16 2 rfl rfl (vp_in_nI hj (by decide)) d_Sc_findLeaders_36 (fun H locs hP hD hS => ?_)
          have hP : va_P (gD G) classes (cw G (sJ Sj 6 (upd (cJ Sj 6) (nI j).toNatClampNeg 0))) H := by have h9 := hP; rw [cwS_J6] at h9; exact h9
          have hD : va_D (gA G) (cw G (sJ Sj 6 (upd (cJ Sj 6) (nI j).toNatClampNeg 0))) := g.d
          refine lv_iinc (v := ((nI j) + 1)) (lv' := [(1, .int ((nI j) + 1)), (0, .ref (gad G 14))]) hx hb d_Sc_findLeaders_37 hl (k := 0) rfl rfl (by decide) rfl (fun ls hl => ?_)
          refine lv_goto (tgt := 2) hx hb d_Sc_findLeaders_40 (by decide) ?_
          rw [sub1_c hj c14, eQ8, eP8] at c28
          have lb1 : ((nI (j + 1)) : Int32) = ((nI j) + 1) := (nI_1 _).symm
          exact kj _ _ _ ⟨by rw [l1_up (v := 0) (by unfold l1B; rw [if_neg (fun z => c14 ((nI_z hj).mpr z)), show endQ (QO σ (j - 1)) = false from c28]; rfl), ← sJ_sJ σ 6 (l1A σ (cJ σ 6) j), hSj]; rw [jc, show cJ Sj 6 = l1A σ (cJ σ 6) j by rw [← hSj]; rfl] at hP; exact hP, hS, by rw [lb1]; exact lv_sub hl [0, 1] rfl⟩
        · have c28 := b2i1 c28
          refine lv_iconst (v := 1) hx hb d_Sc_findLeaders_31 (by decide) ?_
          refine lv_goto (tgt := 36) hx hb d_Sc_findLeaders_32 (by decide) ?_
          refine va_zast (f := (cJ Sj 6)) hx hb hK hP hD hS 16 2 rfl rfl (vp_in_nI hj (by decide)) d_Sc_findLeaders_36 (fun H locs hP hD hS => ?_)
          have hP : va_P (gD G) classes (cw G (sJ Sj 6 (upd (cJ Sj 6) (nI j).toNatClampNeg 1))) H := by have h9 := hP; rw [cwS_J6] at h9; exact h9
          have hD : va_D (gA G) (cw G (sJ Sj 6 (upd (cJ Sj 6) (nI j).toNatClampNeg 1))) := g.d
          refine lv_iinc (v := ((nI j) + 1)) (lv' := [(1, .int ((nI j) + 1)), (0, .ref (gad G 14))]) hx hb d_Sc_findLeaders_37 hl (k := 0) rfl rfl (by decide) rfl (fun ls hl => ?_)
          refine lv_goto (tgt := 2) hx hb d_Sc_findLeaders_40 (by decide) ?_
          rw [sub1_c hj c14, eQ8, eP8] at c28
          have lb1 : ((nI (j + 1)) : Int32) = ((nI j) + 1) := (nI_1 _).symm
          exact kj _ _ _ ⟨by rw [l1_up (v := 1) (by unfold l1B; rw [if_neg (fun z => c14 ((nI_z hj).mpr z)), show endQ (QO σ (j - 1)) = true from c28]; rfl), ← sJ_sJ σ 6 (l1A σ (cJ σ 6) j), hSj]; rw [jc, show cJ Sj 6 = l1A σ (cJ σ 6) j by rw [← hSj]; rfl] at hP; exact hP, hS, by rw [lb1]; exact lv_sub hl [0, 1] rfl⟩
  · obtain ⟨hP, hS, hl⟩ := hJ
    generalize hSj : (sJ σ 6 (l1A σ (cJ σ 6) 24)) = Sj at hP
    have hD := g.d (σ := Sj)
    refine lv_iload_n hx hb d_Sc_findLeaders_2 rfl (lv_at hl 0 rfl) ?_
    refine lv_bipush (v := 24) hx hb d_Sc_findLeaders_3 (by decide) ?_
    refine lv_icmp_ge (tgt := 43) hx hb d_Sc_findLeaders_5 (by decide) (fun c5 => ?_) (fun c5 => ?_)
    · refine lv_iconst (v := 0) hx hb d_Sc_findLeaders_43 (by decide) ?_
      refine lv_istore_n (lv' := [(1, .int 0), (0, .ref (gad G 14))]) hx hb d_Sc_findLeaders_44 rfl hl (by decide) rfl (fun ls hl => ?_)
      have li1 : ((nI 0) : Int32) = 0 := nI_0
      refine W_for (N := 24) (fun j H locs ls => va_P (gD G) classes (cw G (sJ σ 6 (l2A σ (l1A σ (cJ σ 6) 24) j))) H ∧ va_S (gA G) s.heap H locs ∧ lv_has ls 2 [(1, .int (nI j)), (0, .ref (gad G 14))]) (fun ls => F0 m 45 ls []) (fun j H locs ls hj hJ kj => ?_) (fun H locs ls hJ => ?_) 0 _ _ _ (Nat.zero_le _) ⟨by rw [← hSj] at hP; exact hP, hS, by rw [li1]; exact lv_sub hl [0, 1] rfl⟩
      · obtain ⟨hP, hS, hl⟩ := hJ
        generalize hSj : (sJ σ 6 (l2A σ (l1A σ (cJ σ 6) 24) j)) = Sj at hP
        have hD := g.d (σ := Sj)
        have jc : (nI j).toNatClampNeg = j := nI_clamp (by omega)
        have eQ8 : cQ Sj = cQ σ := by rw [← hSj]; rfl
        have eP8 : cP Sj = cP σ := by rw [← hSj]; rfl
        refine lv_iload_n hx hb d_Sc_findLeaders_45 rfl (lv_at hl 0 rfl) ?_
        refine lv_bipush (v := 24) hx hb d_Sc_findLeaders_46 (by decide) ?_
        refine lv_icmp_ge (tgt := 84) hx hb d_Sc_findLeaders_48 (by decide) (fun c48 => ?_) (fun c48 => ?_)
        · exact absurd c48 (nI_ge hj (by decide))
        · refine lv_aload_n hx hb d_Sc_findLeaders_51 rfl (lv_at hl 1 rfl) ?_
          refine va_get (D := gD G) (ci := 5) (v := .ref (gad G 15)) (C := R_Sc) (T := F_Sc) (N := 4) hx hb (wl_Sc hT) (fun _ h9 => h9) hown hK hP 14 rfl rfl 0 (by decide) (k_126 hT) (fun _ h9 => h9) rfl d_Sc_findLeaders_52 ?_
          refine lv_iload_n hx hb d_Sc_findLeaders_55 rfl (lv_at hl 0 rfl) ?_
          refine ald_r (v := gia G ((cP Sj 1) (nI j).toNatClampNeg)) hx hb hK hP 15 3 rfl rfl (vp_in_nI hj (by decide)) (if_pos (by rw [jc, eP8]; exact ok.1 _ hj)) d_Sc_findLeaders_56 ?_
          refine cx_V (n := 0) (C := R_In) (As := []) (rest := []) ⟨hx, hb, hml, hown, fun _ h9 => nomatch h9⟩ (K_In_hasTarget g Sj (by rw [jc, eP8]; exact ok.1 _ hj)) (k_236 hT) (k_233 hT) (k_234 hT) (k_235 hT) (k_8 hT) rfl (by decide +kernel) (va_recv hK hP (ci := 3) (q0 := 19 + ((cP Sj 1) (nI j).toNatClampNeg)) rfl (cw_in (by rw [jc, eP8]; exact ok.1 _ hj))) (hc.at g hS hP) ⟨by decide, by decide⟩ ⟨by decide, by decide⟩ hl.1 (Nat.le_of_ble_eq_true rfl) d_Sc_findLeaders_57 (fun _ h9 => h9) hS (fun _ _ _ _ _ _ _ h9 => h9.elim) (fun v t H locs ht9 hRt hz hk hS => ?_)
          obtain ⟨r, u, rfl, ⟨er, eu⟩, hP⟩ := hRt
          subst er
          rw [eu, ht9] at hP
          have hD : va_D (gA G) (cw G Sj) := g.d
          refine W.eq (g2 := F0 m 60 ls [.int (b2i (tgtQ (cQ Sj ((cP Sj 1) (nI j).toNatClampNeg))))]) rfl ?_
          refine lv_if_eq (tgt := 78) hx hb d_Sc_findLeaders_60 (by decide) (fun c60 => ?_) (fun c60 => ?_)
          · have c60 := b2i0 c60
            refine lv_iinc (v := ((nI j) + 1)) (lv' := [(1, .int ((nI j) + 1)), (0, .ref (gad G 14))]) hx hb d_Sc_findLeaders_78 hl (k := 0) rfl rfl (by decide) rfl (fun ls hl => ?_)
            refine lv_goto (tgt := 45) hx hb d_Sc_findLeaders_81 (by decide) ?_
            rw [jc, eQ8, eP8] at c60
            have lb1 : ((nI (j + 1)) : Int32) = ((nI j) + 1) := (nI_1 _).symm
            exact kj _ _ _ ⟨by rw [l2_n (show tgtQ (QO σ j) = false from c60), hSj]; exact hP, hS, by rw [lb1]; exact lv_sub hl [0, 1] rfl⟩
          · have c60 := b2i1 c60
            refine lv_aload_n hx hb d_Sc_findLeaders_63 rfl (lv_at hl 1 rfl) ?_
            refine va_get (D := gD G) (ci := 5) (v := .ref (gad G 16)) (C := R_Sc) (T := F_Sc) (N := 4) hx hb (wl_Sc hT) (fun _ h9 => h9) hown hK hP 14 rfl rfl 1 (by decide) (k_127 hT) (fun _ h9 => h9) rfl d_Sc_findLeaders_64 ?_
            refine lv_aload_n hx hb d_Sc_findLeaders_67 rfl (lv_at hl 1 rfl) ?_
            refine va_get (D := gD G) (ci := 5) (v := .ref (gad G 15)) (C := R_Sc) (T := F_Sc) (N := 4) hx hb (wl_Sc hT) (fun _ h9 => h9) hown hK hP 14 rfl rfl 0 (by decide) (k_126 hT) (fun _ h9 => h9) rfl d_Sc_findLeaders_68 ?_
            refine lv_iload_n hx hb d_Sc_findLeaders_71 rfl (lv_at hl 0 rfl) ?_
            refine ald_r (v := gia G ((cP Sj 1) (nI j).toNatClampNeg)) hx hb hK hP 15 3 rfl rfl (vp_in_nI hj (by decide)) (if_pos (by rw [jc, eP8]; exact ok.1 _ hj)) d_Sc_findLeaders_72 ?_
            refine cx_V (n := 0) (C := R_In) (As := []) (rest := [.ref (gad G 16)]) ⟨hx, hb, hml, hown, fun _ h9 => nomatch h9⟩ (K_In_target g Sj (by rw [jc, eP8]; exact ok.1 _ hj)) (k_237 hT) (k_238 hT) (k_239 hT) (k_240 hT) (k_8 hT) rfl (by decide +kernel) (va_recv hK hP (ci := 3) (q0 := 19 + ((cP Sj 1) (nI j).toNatClampNeg)) rfl (cw_in (by rw [jc, eP8]; exact ok.1 _ hj))) (hc.at g hS hP) ⟨by decide, by decide⟩ ⟨by decide, by decide⟩ hl.1 (Nat.le_of_ble_eq_true rfl) d_Sc_findLeaders_73 (fun _ h9 => h9) hS (fun _ _ _ _ _ _ _ h9 => h9.elim) (fun v t H locs ht9 hRt hz hk hS => ?_)
            obtain ⟨r, u, rfl, ⟨er, eu⟩, hP⟩ := hRt
            subst er
            rw [eu, ht9] at hP
            have hD : va_D (gA G) (cw G Sj) := g.d
            refine W.eq (g2 := F0 m 76 ls [.int (flm ((cQ Sj ((cP Sj 1) (nI j).toNatClampNeg)) 4) 24), .ref (gad G 16)]) rfl ?_
            refine lv_iconst (v := 1) hx hb d_Sc_findLeaders_76 (by decide) ?_
            refine va_zast (f := (cJ Sj 6)) hx hb hK hP hD hS 16 2 rfl rfl (flm_in _) d_Sc_findLeaders_77 (fun H locs hP hD hS => ?_)
            have hP : va_P (gD G) classes (cw G (sJ Sj 6 (upd (cJ Sj 6) (flm ((cQ Sj ((cP Sj 1) (nI j).toNatClampNeg)) 4) 24).toNatClampNeg 1))) H := by have h9 := hP; rw [cwS_J6] at h9; exact h9
            have hD : va_D (gA G) (cw G (sJ Sj 6 (upd (cJ Sj 6) (flm ((cQ Sj ((cP Sj 1) (nI j).toNatClampNeg)) 4) 24).toNatClampNeg 1))) := g.d
            refine lv_iinc (v := ((nI j) + 1)) (lv' := [(1, .int ((nI j) + 1)), (0, .ref (gad G 14))]) hx hb d_Sc_findLeaders_78 hl (k := 0) rfl rfl (by decide) rfl (fun ls hl => ?_)
            refine lv_goto (tgt := 45) hx hb d_Sc_findLeaders_81 (by decide) ?_
            rw [jc, eQ8, eP8] at c60
            have lb1 : ((nI (j + 1)) : Int32) = ((nI j) + 1) := (nI_1 _).symm
            exact kj _ _ _ ⟨by rw [l2_y (show tgtQ (QO σ j) = true from c60), ← sJ_sJ σ 6 (l2A σ (l1A σ (cJ σ 6) 24) j), hSj]; rw [jc, eQ8, eP8, show cJ Sj 6 = l2A σ (l1A σ (cJ σ 6) 24) j by rw [← hSj]; rfl] at hP; exact hP, hS, by rw [lb1]; exact lv_sub hl [0, 1] rfl⟩
      · obtain ⟨hP, hS, hl⟩ := hJ
        generalize hSj : (sJ σ 6 (l2A σ (l1A σ (cJ σ 6) 24) 24)) = Sj at hP
        have hD := g.d (σ := Sj)
        refine lv_iload_n hx hb d_Sc_findLeaders_45 rfl (lv_at hl 0 rfl) ?_
        refine lv_bipush (v := 24) hx hb d_Sc_findLeaders_46 (by decide) ?_
        refine lv_icmp_ge (tgt := 84) hx hb d_Sc_findLeaders_48 (by decide) (fun c48 => ?_) (fun c48 => ?_)
        · exact end_v (u := Sj) hx hb hr hlocks hS hP d_Sc_findLeaders_84 (by rw [← hSj]; rfl)
        · exact absurd (nI_le (Nat.le_refl _) (by decide)) c48
    · exact absurd (nI_le (Nat.le_refl _) (by decide)) c5

section CRb
def pOf (o od P0 : Nat → Nat) : Nat → Nat := fun k => if k < 24 then o (od k) else P0 k
theorem pOf_up {o od P0 : Nat → Nat} {k b : Nat} (h : k < 24) : updN (pOf o od P0) k (o b) = pOf o (updN od k b) P0 := by
  funext j
  unfold updN pOf
  dsimp only
  by_cases e : j = k
  · rw [if_pos e, if_pos (by omega), if_pos e]
  · rw [if_neg e, if_neg e]
theorem sP_sP (τ : CS) (k : Nat) (f g : Nat → Nat) : sP (sP τ k f) k g = sP τ k g := by
  have : va_up (va_up τ.2.2.2.1 k f) k g = va_up τ.2.2.2.1 k g := by
    funext j
    unfold va_up
    split <;> rfl
  unfold sP
  dsimp only
  rw [this]
theorem sP_self (τ : CS) (k : Nat) : sP τ k (cP τ k) = τ := by
  have : va_up τ.2.2.2.1 k (cP τ k) = τ.2.2.2.1 := by
    funext j
    unfold va_up
    split
    · rename_i h; subst h; rfl
    · rfl
  unfold sP
  rw [this]
theorem lfB_s {a j : Nat} (h : a ≤ j) : lfB a (j + 1 - a) = lfB a (j - a) ||| sh1 j := by
  rw [show j + 1 - a = (j - a) + 1 by omega]
  show lfB a (j - a) ||| sh1 (a + (j - a)) = _
  rw [show a + (j - a) = j by omega]
theorem pkC_in {bh h : Nat → Int32} {a e : Nat} (hae : a < e) (lf : Int32) : a ≤ pkC bh h a e lf ∧ pkC bh h a e lf < e := by
  unfold pkC
  cases hb : bst (may bh lf) h a (e - a) with
  | none => exact ⟨Nat.le_refl _, hae⟩
  | some b =>
    obtain ⟨h1, h2, _⟩ := bst_some _ _ hb
    exact ⟨h1, by show b < e; omega⟩
theorem bkC_s {bh h : Nat → Int32} {a e k p : Nat} {S : Int32 × (Nat → Nat) × Nat} (hk : a ≤ k) (hp : p = pkC bh h a e (bkC bh h a e S (k - a)).1) : bkC bh h a e S (k + 1 - a) = ((bkC bh h a e S (k - a)).1 &&& (sh1 p ^^^ (-1)), updN (bkC bh h a e S (k - a)).2.1 k p, (bkC bh h a e S (k - a)).2.2 + if p = k then 0 else 1) := by
  rw [show k + 1 - a = (k - a) + 1 by omega, hp]
  show (_, updN _ (a + (k - a)) _, _ + if _ = a + (k - a) then 0 else 1) = _
  rw [show a + (k - a) = k by omega]
def hC (σ : CS) (a e : Nat) : Nat → Int32 := hOut (TC σ) (LC σ) e (cJ σ 7) (e - a)
def bC (σ : CS) (a e : Nat) : Nat → Int32 := bOut (TC σ) e (cJ σ 8) (e - a)
def kC (σ : CS) (a e : Nat) (od : Nat → Nat) (n : Nat) : Int32 × (Nat → Nat) × Nat := bkC (bC σ a e) (hC σ a e) a e (lfB a (e - a), od, 0) n
def rbS (σ : CS) (a e : Nat) (od : Nat → Nat) (P0 : Nat → Nat) (n : Nat) : CS := sP (hsC σ e (e - a)) 0 (pOf (cP σ 1) (kC σ a e od n).2.1 P0)
theorem rb_0 {σ : CS} {a e : Nat} {od P0 : Nat → Nat} (h : cP σ 0 = pOf (cP σ 1) od P0) : rbS σ a e od P0 0 = hsC σ e (e - a) := by
  have : pOf (cP σ 1) (kC σ a e od 0).2.1 P0 = cP (hsC σ e (e - a)) 0 := h.symm
  unfold rbS
  rw [this, sP_self]
theorem rb_s {σ S : CS} {a e k p kc pc : Nat} {od P0 : Nat → Nat} (ha : a ≤ k) (hk : k < 24) (hS : rbS σ a e od P0 (k - a) = S) (hp : p = pkC (bC σ a e) (hC σ a e) a e (kC σ a e od (k - a)).1) (h1 : kc = k) (h2 : pc = p) : rbS σ a e od P0 (k + 1 - a) = sP S 0 (updN (cP S 0) kc (cP S 1 pc)) := by
  have e0 : cP S 0 = pOf (cP σ 1) (kC σ a e od (k - a)).2.1 P0 := by rw [← hS]; rfl
  have e1 : cP S 1 = cP σ 1 := by rw [← hS]; rfl
  rw [e0, e1, h1, h2, pOf_up hk, ← hS]
  unfold rbS
  rw [sP_sP]
  have := bkC_s (S := (lfB a (e - a), od, 0)) ha hp
  unfold kC
  rw [this]
end CRb
set_option maxHeartbeats 4000000 in
set_option maxRecDepth 100000 in
theorem K_Sc_reorderBlock {l : Launch} {G : GT} (g : GOK l G) (σ : CS) {a e0 : Nat} (ha : a ≤ e0) (he : e0 ≤ 24) (ok : OkO σ) {od P0 : Nat → Nat} (hod : cP σ 0 = pOf (cP σ 1) od P0) : cx_M l y_Sc_reorderBlock (.code y_Sc_reorderBlock b_Sc_reorderBlock 8 (some .int)) 3 69 (gA G) [.ref (gad G 14), .ref (gad G 1), .int (nI a), .int (nI e0)] (Cw G σ) (Ri G (fun r u => r = nI (kC σ a e0 od (e0 - a)).2.2 ∧ u = rbS σ a e0 od P0 (e0 - a))) (Tn) := by
  refine cx_of (by decide +kernel) ?_
  intro p e s m below meth c s₁ B hml ht hc
  have hx := B.exec
  have hb := B.bytes
  have hr := B.returns
  have hown : s.vm.findClass R_Sc = some m.cls := findClass_of_methodNamed B.named
  have hlocks := B.notSynchronized
  have hT := g.tb hc
  have hK := g.k hc
  have hD := g.d (σ := σ)
  have hS : va_S (gA G) s.heap s.heap [] := va_S.rf
  have hP := hc.2.2
  have hl := lv_entry ([.ref (gad G 14), .ref (gad G 1), .int (nI a), .int (nI e0)]) (n := 8) (Nat.le_of_ble_eq_true rfl)
  rw [lg_entry_eq]
  generalize (lg_sl ([.ref (gad G 14), .ref (gad G 1), .int (nI a), .int (nI e0)]) ++ List.replicate (8 - (lg_sl ([.ref (gad G 14), .ref (gad G 1), .int (nI a), .int (nI e0)])).length) Slot.unset).toArray = ls at hl ⊢
  have hl : lv_has ls 8 [(0, .ref (gad G 14)), (1, .ref (gad G 1)), (2, .int (nI a)), (3, .int (nI e0))] := hl
  refine lv_aload_n hx hb d_Sc_reorderBlock_0 rfl (lv_at hl 0 rfl) ?_
  refine lv_iload_n hx hb d_Sc_reorderBlock_1 rfl (lv_at hl 2 rfl) ?_
  refine lv_iload_n hx hb d_Sc_reorderBlock_2 rfl (lv_at hl 3 rfl) ?_
  refine cx_V (n := 2) (C := R_Sc) (As := [.int (nI a), .int (nI e0)]) (rest := []) ⟨hx, hb, hml, hown, fun _ h9 => nomatch h9⟩ (K_Sc_findHeights g σ ha he ok) (k_252 hT) (k_254 hT) (ks_3 hT) (k_255 hT) (k_7 hT) rfl (by decide +kernel) (va_recv hK hP (ci := 5) (q0 := 14) rfl rfl) (hc.at g hS hP) ⟨by decide, by decide⟩ ⟨by decide, by decide⟩ hl.1 (Nat.le_of_ble_eq_true rfl) d_Sc_reorderBlock_3 (fun _ h9 => h9) hS (fun _ _ _ _ _ _ _ h9 => h9.elim) (fun v t H locs ht9 hRt hz hk hS => ?_)
  obtain ⟨u, rfl, eu, hP⟩ := hRt
  rw [eu, ht9] at hP
  have hD : va_D (gA G) (cw G (hsC σ e0 (e0 - a))) := g.d
  refine W.eq (g2 := F0 m 6 ls []) rfl ?_
  refine lv_iconst (v := 0) hx hb d_Sc_reorderBlock_6 (by decide) ?_
  refine lv_istore (lv' := [(4, .int 0), (0, .ref (gad G 14)), (1, .ref (gad G 1)), (2, .int (nI a)), (3, .int (nI e0))]) hx hb d_Sc_reorderBlock_7 hl (by decide) rfl (fun ls hl => ?_)
  refine lv_iload_n hx hb d_Sc_reorderBlock_9 rfl (lv_at hl 3 rfl) ?_
  refine lv_istore (lv' := [(5, .int (nI a)), (4, .int 0), (0, .ref (gad G 14)), (1, .ref (gad G 1)), (2, .int (nI a)), (3, .int (nI e0))]) hx hb d_Sc_reorderBlock_10 hl (by decide) rfl (fun ls hl => ?_)
  have li4 : ((lfB a (a - a)) : Int32) = 0 := by rw [Nat.sub_self]; rfl
  refine W_for (N := e0) (fun j H locs ls => (a ≤ j) ∧ va_P (gD G) classes (cw G (hsC σ e0 (e0 - a))) H ∧ va_S (gA G) s.heap H locs ∧ lv_has ls 8 [(5, .int (nI j)), (4, .int (lfB a (j - a))), (0, .ref (gad G 14)), (1, .ref (gad G 1)), (2, .int (nI a)), (3, .int (nI e0))]) (fun ls => F0 m 12 ls []) (fun j H locs ls hj hJ kj => ?_) (fun H locs ls hJ => ?_) a _ _ _ ha ⟨Nat.le_refl _, hP, hS, by rw [li4]; exact lv_sub hl [0, 1, 2, 3, 4, 5] rfl⟩
  · obtain ⟨hej, hP, hS, hl⟩ := hJ
    have hD := g.d (σ := (hsC σ e0 (e0 - a)))
    refine lv_iload hx hb d_Sc_reorderBlock_12 (lv_at hl 0 rfl) ?_
    refine lv_iload_n hx hb d_Sc_reorderBlock_14 rfl (lv_at hl 5 rfl) ?_
    refine lv_icmp_ge (tgt := 33) hx hb d_Sc_reorderBlock_15 (by decide) (fun c15 => ?_) (fun c15 => ?_)
    · exact absurd c15 (nI_ge hj (by omega))
    · refine lv_iload hx hb d_Sc_reorderBlock_18 (lv_at hl 1 rfl) ?_
      refine lv_iconst (v := 1) hx hb d_Sc_reorderBlock_20 (by decide) ?_
      refine lv_iload hx hb d_Sc_reorderBlock_21 (lv_at hl 0 rfl) ?_
      refine lv_ishl hx hb d_Sc_reorderBlock_23 ?_
      refine lv_ior hx hb d_Sc_reorderBlock_24 ?_
      refine lv_istore (lv' := [(4, .int ((lfB a (j - a)) ||| (1 <<< ((nI j) &&& 31)))), (5, .int (nI j)), (0, .ref (gad G 14)), (1, .ref (gad G 1)), (2, .int (nI a)), (3, .int (nI e0))]) hx hb d_Sc_reorderBlock_25 hl (by decide) rfl (fun ls hl => ?_)
      refine lv_iinc (v := ((nI j) + 1)) (lv' := [(5, .int ((nI j) + 1)), (4, .int ((lfB a (j - a)) ||| (1 <<< ((nI j) &&& 31)))), (0, .ref (gad G 14)), (1, .ref (gad G 1)), (2, .int (nI a)), (3, .int (nI e0))]) hx hb d_Sc_reorderBlock_27 hl (k := 1) rfl rfl (by decide) rfl (fun ls hl => ?_)
      refine lv_goto (tgt := 12) hx hb d_Sc_reorderBlock_30 (by decide) ?_
      have lb5 : ((nI (j + 1)) : Int32) = ((nI j) + 1) := (nI_1 _).symm
      have lb4 : ((lfB a ((j + 1) - a)) : Int32) = ((lfB a (j - a)) ||| (1 <<< ((nI j) &&& 31))) := lfB_s hej
      exact kj _ _ _ ⟨(by omega), hP, hS, by rw [lb5, lb4]; exact lv_sub hl [0, 1, 2, 3, 4, 5] rfl⟩
  · obtain ⟨hej, hP, hS, hl⟩ := hJ
    have hD := g.d (σ := (hsC σ e0 (e0 - a)))
    refine lv_iload hx hb d_Sc_reorderBlock_12 (lv_at hl 0 rfl) ?_
    refine lv_iload_n hx hb d_Sc_reorderBlock_14 rfl (lv_at hl 5 rfl) ?_
    refine lv_icmp_ge (tgt := 33) hx hb d_Sc_reorderBlock_15 (by decide) (fun c15 => ?_) (fun c15 => ?_)
    · refine lv_iconst (v := 0) hx hb d_Sc_reorderBlock_33 (by decide) ?_
      refine lv_istore (lv' := [(5, .int 0), (4, .int (lfB a (e0 - a))), (0, .ref (gad G 14)), (1, .ref (gad G 1)), (2, .int (nI a)), (3, .int (nI e0))]) hx hb d_Sc_reorderBlock_34 hl (by decide) rfl (fun ls hl => ?_)
      refine lv_iload_n hx hb d_Sc_reorderBlock_36 rfl (lv_at hl 4 rfl) ?_
      refine lv_istore (lv' := [(6, .int (nI a)), (5, .int 0), (4, .int (lfB a (e0 - a))), (0, .ref (gad G 14)), (1, .ref (gad G 1)), (2, .int (nI a)), (3, .int (nI e0))]) hx hb d_Sc_reorderBlock_37 hl (by decide) rfl (fun ls hl => ?_)
      have li5 : ((nI (kC σ a e0 od (a - a)).2.2) : Int32) = 0 := by rw [Nat.sub_self]; rfl
      have li4 : ((kC σ a e0 od (a - a)).1 : Int32) = (lfB a (e0 - a)) := by rw [Nat.sub_self]; rfl
      refine W_for (N := e0) (fun k H locs ls => (a ≤ k) ∧ va_P (gD G) classes (cw G (rbS σ a e0 od P0 (k - a))) H ∧ va_S (gA G) s.heap H locs ∧ lv_has ls 8 [(6, .int (nI k)), (5, .int (nI (kC σ a e0 od (k - a)).2.2)), (4, .int ((kC σ a e0 od (k - a)).1)), (0, .ref (gad G 14)), (1, .ref (gad G 1)), (2, .int (nI a)), (3, .int (nI e0))]) (fun ls => F0 m 39 ls []) (fun k H locs ls hk hJ kk => ?_) (fun H locs ls hJ => ?_) a _ _ _ ha ⟨Nat.le_refl _, by rw [Nat.sub_self, rb_0 hod]; exact hP, hS, by rw [li5, li4]; exact lv_sub hl [0, 1, 2, 3, 4, 5, 6] rfl⟩
      · obtain ⟨hek, hP, hS, hl⟩ := hJ
        generalize hSk : (rbS σ a e0 od P0 (k - a)) = Sk at hP
        have hD := g.d (σ := Sk)
        have kc : (nI k).toNatClampNeg = k := nI_clamp (by omega)
        have e7 : cJ Sk 7 = hC σ a e0 := by rw [← hSk]; rfl
        have e8 : cJ Sk 8 = bC σ a e0 := by rw [← hSk]; rfl
        have e1 : cP Sk 1 = cP σ 1 := by rw [← hSk]; rfl
        refine lv_iload hx hb d_Sc_reorderBlock_39 (lv_at hl 0 rfl) ?_
        refine lv_iload_n hx hb d_Sc_reorderBlock_41 rfl (lv_at hl 6 rfl) ?_
        refine lv_icmp_ge (tgt := 93) hx hb d_Sc_reorderBlock_42 (by decide) (fun c42 => ?_) (fun c42 => ?_)
        · exact absurd c42 (nI_ge hk (by omega))
        · refine lv_aload_n hx hb d_Sc_reorderBlock_45 rfl (lv_at hl 3 rfl) ?_
          refine lv_iload_n hx hb d_Sc_reorderBlock_46 rfl (lv_at hl 5 rfl) ?_
          refine lv_iload_n hx hb d_Sc_reorderBlock_47 rfl (lv_at hl 6 rfl) ?_
          refine lv_iload hx hb d_Sc_reorderBlock_48 (lv_at hl 2 rfl) ?_
          refine cx_V (n := 3) (C := R_Sc) (As := [.int (nI a), .int (nI e0), .int ((kC σ a e0 od (k - a)).1)]) (rest := []) ⟨hx, hb, hml, hown, fun _ h9 => nomatch h9⟩ (K_Sc_nextToPlace g Sk ha he (kC σ a e0 od (k - a)).1) (k_278 hT) (k_280 hT) (ks_5 hT) (k_281 hT) (k_7 hT) rfl (by decide +kernel) (va_recv hK hP (ci := 5) (q0 := 14) rfl rfl) (hc.at g hS hP) ⟨by decide, by decide⟩ ⟨by decide, by decide⟩ hl.1 (Nat.le_of_ble_eq_true rfl) d_Sc_reorderBlock_50 (fun _ h9 => h9) hS (fun _ _ _ _ _ _ _ h9 => h9.elim) (fun v t H locs ht9 hRt hz hk hS => ?_)
          obtain ⟨r, u, rfl, ⟨er, eu⟩, hP⟩ := hRt
          subst er
          rw [eu, ht9] at hP
          have hD : va_D (gA G) (cw G Sk) := g.d
          refine W.eq (g2 := F0 m 53 ls [.int (nI (pkC (cJ Sk 8) (cJ Sk 7) a e0 ((kC σ a e0 od (k - a)).1)))]) rfl ?_
          obtain ⟨p0, hp0⟩ : ∃ p0, p0 = pkC (bC σ a e0) (hC σ a e0) a e0 (kC σ a e0 od (k - a)).1 := ⟨_, rfl⟩
          have hpi := pkC_in (bh := bC σ a e0) (h := hC σ a e0) (show a < e0 by omega) (kC σ a e0 od (k - a)).1
          rw [← hp0] at hpi
          have pc0 : (nI p0).toNatClampNeg = p0 := nI_clamp (by omega)
          refine W.eq (g2 := F0 m 53 ls [.int (nI p0)]) (by rw [e7, e8, ← hp0]) ?_
          refine lv_istore (lv' := [(7, .int (nI p0)), (6, .int (nI k)), (5, .int (nI (kC σ a e0 od (k - a)).2.2)), (4, .int ((kC σ a e0 od (k - a)).1)), (0, .ref (gad G 14)), (1, .ref (gad G 1)), (2, .int (nI a)), (3, .int (nI e0))]) hx hb d_Sc_reorderBlock_53 hl (by decide) rfl (fun ls hl => ?_)
          refine lv_iload hx hb d_Sc_reorderBlock_55 (lv_at hl 3 rfl) ?_
          refine lv_iconst (v := 1) hx hb d_Sc_reorderBlock_57 (by decide) ?_
          refine lv_iload hx hb d_Sc_reorderBlock_58 (lv_at hl 0 rfl) ?_
          refine lv_ishl hx hb d_Sc_reorderBlock_60 ?_
          refine lv_iconst (v := (-1)) hx hb d_Sc_reorderBlock_61 (by decide) ?_
          refine lv_ixor hx hb d_Sc_reorderBlock_62 ?_
          refine lv_iand hx hb d_Sc_reorderBlock_63 ?_
          refine lv_istore (lv' := [(4, .int ((kC σ a e0 od (k - a)).1 &&& ((1 <<< ((nI p0) &&& 31)) ^^^ (-1)))), (7, .int (nI p0)), (6, .int (nI k)), (5, .int (nI (kC σ a e0 od (k - a)).2.2)), (0, .ref (gad G 14)), (1, .ref (gad G 1)), (2, .int (nI a)), (3, .int (nI e0))]) hx hb d_Sc_reorderBlock_64 hl (by decide) rfl (fun ls hl => ?_)
          refine lv_aload_n hx hb d_Sc_reorderBlock_66 rfl (lv_at hl 5 rfl) ?_
          refine lv_iload hx hb d_Sc_reorderBlock_67 (lv_at hl 2 rfl) ?_
          refine lv_aload_n hx hb d_Sc_reorderBlock_69 rfl (lv_at hl 4 rfl) ?_
          refine va_get (D := gD G) (ci := 5) (v := .ref (gad G 15)) (C := R_Sc) (T := F_Sc) (N := 4) hx hb (wl_Sc hT) (fun _ h9 => h9) hown hK hP 14 rfl rfl 0 (by decide) (k_126 hT) (fun _ h9 => h9) rfl d_Sc_reorderBlock_70 ?_
          refine lv_iload hx hb d_Sc_reorderBlock_73 (lv_at hl 1 rfl) ?_
          refine ald_r (v := gia G ((cP Sk 1) (nI p0).toNatClampNeg)) hx hb hK hP 15 3 rfl rfl (vp_in_nI (by omega) (by decide)) (if_pos (by rw [pc0, e1]; exact ok.1 _ (by omega))) d_Sc_reorderBlock_75 ?_
          refine va_astq (f := fun i => insR G (cP Sk 0 i)) hx hb hK hP hD hS 1 3 (19 + ((cP Sk 1) (nI p0).toNatClampNeg)) 3 rfl rfl (cw_in (by rw [pc0, e1]; exact ok.1 _ (by omega))) rfl (vp_in_nI (by omega) (by decide)) d_Sc_reorderBlock_76 (fun H locs hP hD hS => ?_)
          have hP : va_P (gD G) classes (cw G (sP Sk 0 (updN (cP Sk 0) (nI k).toNatClampNeg ((cP Sk 1) (nI p0).toNatClampNeg)))) H := by have h9 := hP; rw [cwS_P0 G _ _ _ (by rw [pc0, e1]; exact ok.1 _ (by omega))] at h9; exact h9
          have hD : va_D (gA G) (cw G (sP Sk 0 (updN (cP Sk 0) (nI k).toNatClampNeg ((cP Sk 1) (nI p0).toNatClampNeg)))) := g.d
          refine lv_iload hx hb d_Sc_reorderBlock_77 (lv_at hl 1 rfl) ?_
          refine lv_iload hx hb d_Sc_reorderBlock_79 (lv_at hl 2 rfl) ?_
          refine lv_icmp_eq (tgt := 87) hx hb d_Sc_reorderBlock_81 (by decide) (fun c81 => ?_) (fun c81 => ?_)
          · refine lv_iinc (v := ((nI k) + 1)) (lv' := [(6, .int ((nI k) + 1)), (4, .int ((kC σ a e0 od (k - a)).1 &&& ((1 <<< ((nI p0) &&& 31)) ^^^ (-1)))), (7, .int (nI p0)), (5, .int (nI (kC σ a e0 od (k - a)).2.2)), (0, .ref (gad G 14)), (1, .ref (gad G 1)), (2, .int (nI a)), (3, .int (nI e0))]) hx hb d_Sc_reorderBlock_87 hl (k := 2) rfl rfl (by decide) rfl (fun ls hl => ?_)
            refine lv_goto (tgt := 39) hx hb d_Sc_reorderBlock_90 (by decide) ?_
            have bs := bkC_s (S := (lfB a (e0 - a), od, 0)) hek hp0
            have lb6 : ((nI (k + 1)) : Int32) = ((nI k) + 1) := (nI_1 _).symm
            have lb5 : ((nI (kC σ a e0 od ((k + 1) - a)).2.2) : Int32) = (nI (kC σ a e0 od (k - a)).2.2) := by rw [show (kC σ a e0 od (k + 1 - a)) = _ from bs]; show nI (_ + if p0 = k then 0 else 1) = _; rw [if_pos (nI_inj (by omega) (by omega) c81)]; rfl
            have lb4 : ((kC σ a e0 od ((k + 1) - a)).1 : Int32) = ((kC σ a e0 od (k - a)).1 &&& ((1 <<< ((nI p0) &&& 31)) ^^^ (-1))) := by rw [show (kC σ a e0 od (k + 1 - a)) = _ from bs]; rfl
            exact kk _ _ _ ⟨(by omega), by rw [rb_s hek (by omega) hSk hp0 kc pc0]; exact hP, hS, by rw [lb6, lb5, lb4]; exact lv_sub hl [0, 3, 1, 4, 5, 6, 7] rfl⟩
          · refine lv_iinc (v := ((nI (kC σ a e0 od (k - a)).2.2) + 1)) (lv' := [(5, .int ((nI (kC σ a e0 od (k - a)).2.2) + 1)), (4, .int ((kC σ a e0 od (k - a)).1 &&& ((1 <<< ((nI p0) &&& 31)) ^^^ (-1)))), (7, .int (nI p0)), (6, .int (nI k)), (0, .ref (gad G 14)), (1, .ref (gad G 1)), (2, .int (nI a)), (3, .int (nI e0))]) hx hb d_Sc_reorderBlock_84 hl (k := 3) rfl rfl (by decide) rfl (fun ls hl => ?_)
            refine lv_iinc (v := ((nI k) + 1)) (lv' := [(6, .int ((nI k) + 1)), (5, .int ((nI (kC σ a e0 od (k - a)).2.2) + 1)), (4, .int ((kC σ a e0 od (k - a)).1 &&& ((1 <<< ((nI p0) &&& 31)) ^^^ (-1)))), (7, .int (nI p0)), (0, .ref (gad G 14)), (1, .ref (gad G 1)), (2, .int (nI a)), (3, .int (nI e0))]) hx hb d_Sc_reorderBlock_87 hl (k := 3) rfl rfl (by decide) rfl (fun ls hl => ?_)
            refine lv_goto (tgt := 39) hx hb d_Sc_reorderBlock_90 (by decide) ?_
            have bs := bkC_s (S := (lfB a (e0 - a), od, 0)) hek hp0
            have lb6 : ((nI (k + 1)) : Int32) = ((nI k) + 1) := (nI_1 _).symm
            have lb5 : ((nI (kC σ a e0 od ((k + 1) - a)).2.2) : Int32) = ((nI (kC σ a e0 od (k - a)).2.2) + 1) := by rw [show (kC σ a e0 od (k + 1 - a)) = _ from bs]; show nI (_ + if p0 = k then 0 else 1) = _; rw [if_neg (fun z => c81 (by rw [z]))]; exact (nI_1 _).symm
            have lb4 : ((kC σ a e0 od ((k + 1) - a)).1 : Int32) = ((kC σ a e0 od (k - a)).1 &&& ((1 <<< ((nI p0) &&& 31)) ^^^ (-1))) := by rw [show (kC σ a e0 od (k + 1 - a)) = _ from bs]; rfl
            exact kk _ _ _ ⟨(by omega), by rw [rb_s hek (by omega) hSk hp0 kc pc0]; exact hP, hS, by rw [lb6, lb5, lb4]; exact lv_sub hl [0, 1, 2, 4, 5, 6, 7] rfl⟩
      · obtain ⟨hek, hP, hS, hl⟩ := hJ
        generalize hSk : (rbS σ a e0 od P0 (e0 - a)) = Sk at hP
        have hD := g.d (σ := Sk)
        refine lv_iload hx hb d_Sc_reorderBlock_39 (lv_at hl 0 rfl) ?_
        refine lv_iload_n hx hb d_Sc_reorderBlock_41 rfl (lv_at hl 6 rfl) ?_
        refine lv_icmp_ge (tgt := 93) hx hb d_Sc_reorderBlock_42 (by decide) (fun c42 => ?_) (fun c42 => ?_)
        · refine lv_iload hx hb d_Sc_reorderBlock_93 (lv_at hl 1 rfl) ?_
          exact end_i (u := Sk) hx hb hr hlocks hS hP d_Sc_reorderBlock_95 (⟨rfl, by rw [← hSk]⟩)
        · exact absurd (nI_le (Nat.le_refl _) (by omega)) c42
    · exact absurd (nI_le (Nat.le_refl _) (by omega)) c15

section CRo
def cpA (p o : Nat → Nat) (j : Nat) : Nat → Nat := fun k => if k < j then p k else o k
theorem cpA_0 (p o : Nat → Nat) : cpA p o 0 = o := by funext k; unfold cpA; rw [if_neg (Nat.not_lt_zero k)]
theorem cpA_up (p o : Nat → Nat) (j : Nat) : cpA p o (j + 1) = updN (cpA p o j) j (p j) := by
  funext k
  unfold updN cpA
  by_cases e : k = j
  · rw [if_pos e, if_pos (by omega), e]
  · rw [if_neg e]
    by_cases h : k < j
    · rw [if_pos h, if_pos (by omega)]
    · rw [if_neg h, if_neg (by omega)]
/-- the state with the old places filled and the leaders found -/
def roS (σ : CS) : CS := sJ (sP σ 1 (cpA (cP σ 0) (cP σ 1) 24)) 6 (ldA (sP σ 1 (cpA (cP σ 0) (cP σ 1) 24)))
abbrev SY : Type := (Nat → Int32) × (Nat → Int32) × (Nat → Nat) × Nat
def ccS (σ : CS) (y : SY) : CS := sP (sJ (sJ σ 7 y.1) 8 y.2.1) 0 (pOf (cP σ 1) y.2.2.1 (cP σ 0))
def enC (σ : CS) (i : Nat) : Nat := enE (insC σ) (ldC σ) i
def BC (σ : CS) (i : Nat) (y : SY) : SY := (hOut (TC σ) (LC σ) (enC σ i) y.1 (enC σ i - i), bOut (TC σ) (enC σ i) y.2.1 (enC σ i - i), (bkC (bOut (TC σ) (enC σ i) y.2.1 (enC σ i - i)) (hOut (TC σ) (LC σ) (enC σ i) y.1 (enC σ i - i)) i (enC σ i) (lfB i (enC σ i - i), y.2.2.1, 0) (enC σ i - i)).2.1, y.2.2.2 + (bkC (bOut (TC σ) (enC σ i) y.2.1 (enC σ i - i)) (hOut (TC σ) (LC σ) (enC σ i) y.1 (enC σ i - i)) i (enC σ i) (lfB i (enC σ i - i), y.2.2.1, 0) (enC σ i - i)).2.2)
theorem cc_T (σ : CS) (y : SY) : TC (ccS σ y) = TC σ ∧ LC (ccS σ y) = LC σ ∧ insC (ccS σ y) = insC σ ∧ ldC (ccS σ y) = ldC σ := ⟨rfl, rfl, rfl, rfl⟩
theorem cc_rb (σ : CS) (y : SY) (i : Nat) : rbS (ccS σ y) i (enC σ i) y.2.2.1 (cP σ 0) (enC σ i - i) = ccS σ (BC σ i y) := by
  have e7 : cJ (ccS σ y) 7 = y.1 := rfl
  have e8 : cJ (ccS σ y) 8 = y.2.1 := rfl
  have e1 : cP (ccS σ y) 1 = cP σ 1 := rfl
  obtain ⟨eT, eL, _, _⟩ := cc_T σ y
  have eh : hsC (ccS σ y) (enC σ i) (enC σ i - i) = sP (sJ (sJ σ 7 (BC σ i y).1) 8 (BC σ i y).2.1) 0 (cP (ccS σ y) 0) := by
    unfold hsC
    rw [eT, eL, e7, e8]
    unfold BC ccS
    dsimp only
    show sJ (sJ (sP (sJ (sJ σ 7 y.1) 8 y.2.1) 0 (pOf (cP σ 1) y.2.2.1 (cP σ 0))) 7 _) 8 _ = sP (sJ (sJ σ 7 _) 8 _) 0 (pOf (cP σ 1) y.2.2.1 (cP σ 0))
    have : ∀ (τ : CS) (P : Nat → Nat) (k : Nat) (f : Nat → Int32), sJ (sP τ 0 P) k f = sP (sJ τ k f) 0 P := fun _ _ _ _ => rfl
    rw [this, this, sJ_comm (sJ σ 7 y.1) (k := 8) (j := 7) _ _ (by decide), sJ_sJ, sJ_sJ]
  unfold rbS
  rw [eh, sP_sP, e1]
  unfold kC hC bC
  rw [eT, eL, e7, e8]
  rfl
theorem cc_kC (σ : CS) (y : SY) (i : Nat) : (BC σ i y).2.2.2 = y.2.2.2 + (kC (ccS σ y) i (enC σ i) y.2.2.1 (enC σ i - i)).2.2 := by
  have e7 : cJ (ccS σ y) 7 = y.1 := rfl
  have e8 : cJ (ccS σ y) 8 = y.2.1 := rfl
  obtain ⟨eT, eL, _, _⟩ := cc_T σ y
  unfold kC hC bC
  rw [eT, eL, e7, e8]
  rfl
theorem cc_6 (σ : CS) (y : SY) : cJ (ccS σ y) 6 = cJ σ 6 := rfl
theorem cc_ok {σ : CS} (y : SY) (h : OkO σ) : OkO (ccS σ y) := h
theorem cc_P (σ : CS) (y : SY) : cP (ccS σ y) 0 = pOf (cP (ccS σ y) 1) y.2.2.1 (cP σ 0) := rfl
theorem j6_ok {σ : CS} {f : Nat → Int32} (h : OkO σ) : OkO (sJ σ 6 f) := h
theorem j6_P (σ : CS) (f : Nat → Int32) : cP (sJ σ 6 f) = cP σ := rfl
theorem cp_ok {σ : CS} (wf : Wf σ) : OkO (sP σ 1 (cpA (cP σ 0) (cP σ 1) 24)) := ⟨fun k hk => by show cpA (cP σ 0) (cP σ 1) 24 k < 24; unfold cpA; rw [if_pos hk]; exact wf.2.1 k hk, wf.2.2.1⟩
theorem ro_cp (σ : CS) : ∀ k, k < 24 → cP (roS σ) 1 k = cP (roS σ) 0 k := fun k hk => by
  unfold roS
  rw [j6_P]
  show cpA (cP σ 0) (cP σ 1) 24 k = cP σ 0 k
  unfold cpA
  rw [if_pos hk]
theorem ro_ok {σ : CS} (wf : Wf σ) : OkO (roS σ) := j6_ok (cp_ok wf)
def y0C (σ : CS) : SY := (cJ σ 7, cJ σ 8, fun k => k, 0)
theorem cc_0 {σ : CS} (h : ∀ k, k < 24 → cP σ 1 k = cP σ 0 k) : ccS σ (y0C σ) = σ := by
  have e : pOf (cP σ 1) (fun k => k) (cP σ 0) = cP σ 0 := by
    funext k
    unfold pOf
    split
    · rename_i hk; exact h k hk
    · rfl
  unfold ccS y0C
  dsimp only
  rw [e, sJ_self]
  have : sJ σ 8 (cJ σ 8) = σ := sJ_self _ _
  rw [this, sP_self]
def scC (σ : CS) : SY := ouC (BC (roS σ)) (ldC (roS σ)) 24 (y0C (roS σ))
end CRo
set_option maxHeartbeats 4000000 in
set_option maxRecDepth 100000 in
theorem K_Sc_reorder {l : Launch} {G : GT} (g : GOK l G) (σ : CS) (wf : Wf σ) : cx_M l y_Sc_reorder (.code y_Sc_reorder b_Sc_reorder 4 (some .int)) 4 96 (gA G) [.ref (gad G 14), .ref (gad G 1)] (Cw G σ) (Ri G (fun r u => r = nI (scC σ).2.2.2 ∧ u = ccS (roS σ) (scC σ))) (Tn) := by
  refine cx_of (by decide +kernel) ?_
  intro p e s m below meth c s₁ B hml ht hc
  have hx := B.exec
  have hb := B.bytes
  have hr := B.returns
  have hown : s.vm.findClass R_Sc = some m.cls := findClass_of_methodNamed B.named
  have hlocks := B.notSynchronized
  have hT := g.tb hc
  have hK := g.k hc
  have hD := g.d (σ := σ)
  have hS : va_S (gA G) s.heap s.heap [] := va_S.rf
  have hP := hc.2.2
  have hl := lv_entry ([.ref (gad G 14), .ref (gad G 1)]) (n := 4) (Nat.le_of_ble_eq_true rfl)
  rw [lg_entry_eq]
  generalize (lg_sl ([.ref (gad G 14), .ref (gad G 1)]) ++ List.replicate (4 - (lg_sl ([.ref (gad G 14), .ref (gad G 1)])).length) Slot.unset).toArray = ls at hl ⊢
  have hl : lv_has ls 4 [(0, .ref (gad G 14)), (1, .ref (gad G 1))] := hl
  refine lv_iconst (v := 0) hx hb d_Sc_reorder_0 (by decide) ?_
  refine lv_istore_n (lv' := [(2, .int 0), (0, .ref (gad G 14)), (1, .ref (gad G 1))]) hx hb d_Sc_reorder_1 rfl hl (by decide) rfl (fun ls hl => ?_)
  have li2 : ((nI 0) : Int32) = 0 := nI_0
  refine W_for (N := 24) (fun j H locs ls => va_P (gD G) classes (cw G (sP σ 1 (cpA (cP σ 0) (cP σ 1) j))) H ∧ va_S (gA G) s.heap H locs ∧ lv_has ls 4 [(2, .int (nI j)), (0, .ref (gad G 14)), (1, .ref (gad G 1))]) (fun ls => F0 m 2 ls []) (fun j H locs ls hj hJ kj => ?_) (fun H locs ls hJ => ?_) 0 _ _ _ (Nat.zero_le _) ⟨by rw [cpA_0, sP_self]; exact hP, hS, by rw [li2]; exact lv_sub hl [0, 1, 2] rfl⟩
  · obtain ⟨hP, hS, hl⟩ := hJ
    generalize hSj : (sP σ 1 (cpA (cP σ 0) (cP σ 1) j)) = Sj at hP
    have hD := g.d (σ := Sj)
    have jc : (nI j).toNatClampNeg = j := nI_clamp (by omega)
    have e0 : cP Sj 0 = cP σ 0 := by rw [← hSj]; rfl
    refine lv_iload_n hx hb d_Sc_reorder_2 rfl (lv_at hl 0 rfl) ?_
    refine lv_bipush (v := 24) hx hb d_Sc_reorder_3 (by decide) ?_
    refine lv_icmp_ge (tgt := 23) hx hb d_Sc_reorder_5 (by decide) (fun c5 => ?_) (fun c5 => ?_)
    · exact absurd c5 (nI_ge hj (by decide))
    · refine lv_aload_n hx hb d_Sc_reorder_8 rfl (lv_at hl 1 rfl) ?_
      refine va_get (D := gD G) (ci := 5) (v := .ref (gad G 15)) (C := R_Sc) (T := F_Sc) (N := 4) hx hb (wl_Sc hT) (fun _ h9 => h9) hown hK hP 14 rfl rfl 0 (by decide) (k_126 hT) (fun _ h9 => h9) rfl d_Sc_reorder_9 ?_
      refine lv_iload_n hx hb d_Sc_reorder_12 rfl (lv_at hl 0 rfl) ?_
      refine lv_aload_n hx hb d_Sc_reorder_13 rfl (lv_at hl 2 rfl) ?_
      refine lv_iload_n hx hb d_Sc_reorder_14 rfl (lv_at hl 0 rfl) ?_
      refine ald_r (v := gia G ((cP Sj 0) (nI j).toNatClampNeg)) hx hb hK hP 1 3 rfl rfl (vp_in_nI hj (by decide)) (if_pos (by rw [jc, e0]; exact wf.2.1 _ hj)) d_Sc_reorder_15 ?_
      refine va_astq (f := fun i => insR G (cP Sj 1 i)) hx hb hK hP hD hS 15 3 (19 + ((cP Sj 0) (nI j).toNatClampNeg)) 3 rfl rfl (cw_in (by rw [jc, e0]; exact wf.2.1 _ hj)) rfl (vp_in_nI hj (by decide)) d_Sc_reorder_16 (fun H locs hP hD hS => ?_)
      have hP : va_P (gD G) classes (cw G (sP Sj 1 (updN (cP Sj 1) (nI j).toNatClampNeg ((cP Sj 0) (nI j).toNatClampNeg)))) H := by have h9 := hP; rw [cwS_P1 G _ _ _ (by rw [jc, e0]; exact wf.2.1 _ hj)] at h9; exact h9
      have hD : va_D (gA G) (cw G (sP Sj 1 (updN (cP Sj 1) (nI j).toNatClampNeg ((cP Sj 0) (nI j).toNatClampNeg)))) := g.d
      refine lv_iinc (v := ((nI j) + 1)) (lv' := [(2, .int ((nI j) + 1)), (0, .ref (gad G 14)), (1, .ref (gad G 1))]) hx hb d_Sc_reorder_17 hl (k := 0) rfl rfl (by decide) rfl (fun ls hl => ?_)
      refine lv_goto (tgt := 2) hx hb d_Sc_reorder_20 (by decide) ?_
      have lb2 : ((nI (j + 1)) : Int32) = ((nI j) + 1) := (nI_1 _).symm
      exact kj _ _ _ ⟨by rw [cpA_up, ← sP_sP σ 1 (cpA (cP σ 0) (cP σ 1) j), hSj]; rw [jc, e0, show cP Sj 1 = cpA (cP σ 0) (cP σ 1) j by rw [← hSj]; rfl] at hP; exact hP, hS, by rw [lb2]; exact lv_sub hl [0, 1, 2] rfl⟩
  · obtain ⟨hP, hS, hl⟩ := hJ
    generalize hSj : (sP σ 1 (cpA (cP σ 0) (cP σ 1) 24)) = Sj at hP
    have hD := g.d (σ := Sj)
    refine lv_iload_n hx hb d_Sc_reorder_2 rfl (lv_at hl 0 rfl) ?_
    refine lv_bipush (v := 24) hx hb d_Sc_reorder_3 (by decide) ?_
    refine lv_icmp_ge (tgt := 23) hx hb d_Sc_reorder_5 (by decide) (fun c5 => ?_) (fun c5 => ?_)
    · rw [← hSj] at hP
      have hD := g.d (σ := (sP σ 1 (cpA (cP σ 0) (cP σ 1) 24)))
      have ok1 : OkO (sP σ 1 (cpA (cP σ 0) (cP σ 1) 24)) := cp_ok wf
      refine lv_aload_n hx hb d_Sc_reorder_23 rfl (lv_at hl 1 rfl) ?_
      refine cx_V (n := 0) (C := R_Sc) (As := []) (rest := []) ⟨hx, hb, hml, hown, fun _ h9 => nomatch h9⟩ (K_Sc_findLeaders g (sP σ 1 (cpA (cP σ 0) (cP σ 1) 24)) ok1) (k_224 hT) (k_226 hT) (ks_0 hT) (k_227 hT) (k_7 hT) rfl (by decide +kernel) (va_recv hK hP (ci := 5) (q0 := 14) rfl rfl) (hc.at g hS hP) ⟨by decide, by decide⟩ ⟨by decide, by decide⟩ hl.1 (Nat.le_of_ble_eq_true rfl) d_Sc_reorder_24 (fun _ h9 => h9) hS (fun _ _ _ _ _ _ _ h9 => h9.elim) (fun v t H locs ht9 hRt hz hk hS => ?_)
      obtain ⟨u, rfl, eu, hP⟩ := hRt
      rw [eu, ht9] at hP
      have hD : va_D (gA G) (cw G (sJ (sP σ 1 (cpA (cP σ 0) (cP σ 1) 24)) 6 (ldA (sP σ 1 (cpA (cP σ 0) (cP σ 1) 24))))) := g.d
      refine W.eq (g2 := F0 m 27 ls []) rfl ?_
      have hP : va_P (gD G) classes (cw G (roS σ)) H := hP
      have ok2 : OkO (roS σ) := ro_ok wf
      have hcp := ro_cp σ
      refine lv_iconst (v := 0) hx hb d_Sc_reorder_27 (by decide) ?_
      refine lv_istore_n (lv' := [(2, .int 0), (0, .ref (gad G 14)), (1, .ref (gad G 1))]) hx hb d_Sc_reorder_28 rfl hl (by decide) rfl (fun ls hl => ?_)
      refine lv_iconst (v := 0) hx hb d_Sc_reorder_29 (by decide) ?_
      refine lv_istore_n (lv' := [(3, .int 0), (2, .int 0), (0, .ref (gad G 14)), (1, .ref (gad G 1))]) hx hb d_Sc_reorder_30 rfl hl (by decide) rfl (fun ls hl => ?_)
      have li3 : ((nI 0) : Int32) = 0 := nI_0
      have li2 : ((nI (ouC (BC (roS σ)) (ldC (roS σ)) 0 (y0C (roS σ))).2.2.2) : Int32) = 0 := rfl
      refine W_for (N := 24) (fun j H locs ls => va_P (gD G) classes (cw G (ccS (roS σ) (ouC (BC (roS σ)) (ldC (roS σ)) j (y0C (roS σ))))) H ∧ va_S (gA G) s.heap H locs ∧ lv_has ls 4 [(3, .int (nI j)), (2, .int (nI (ouC (BC (roS σ)) (ldC (roS σ)) j (y0C (roS σ))).2.2.2)), (0, .ref (gad G 14)), (1, .ref (gad G 1))]) (fun ls => F0 m 31 ls []) (fun j H locs ls hj hJ kj => ?_) (fun H locs ls hJ => ?_) 0 _ _ _ (Nat.zero_le _) ⟨by rw [show (ouC (BC (roS σ)) (ldC (roS σ)) 0 (y0C (roS σ))) = y0C (roS σ) from rfl, cc_0 hcp]; exact hP, hS, by rw [li3, li2]; exact lv_sub hl [0, 1, 2, 3] rfl⟩
      · obtain ⟨hP, hS, hl⟩ := hJ
        generalize hSj : (ccS (roS σ) (ouC (BC (roS σ)) (ldC (roS σ)) j (y0C (roS σ)))) = Sj at hP
        have hD := g.d (σ := Sj)
        have jc : (nI j).toNatClampNeg = j := nI_clamp (by omega)
        have e6 : cJ Sj 6 = cJ (roS σ) 6 := by rw [← hSj]; exact cc_6 _ _
        have eI : insC Sj = insC (roS σ) := by rw [← hSj]; exact (cc_T _ _).2.2.1
        have eL : ldC Sj = ldC (roS σ) := by rw [← hSj]; exact (cc_T _ _).2.2.2
        have okj : OkO Sj := by rw [← hSj]; exact cc_ok _ ok2
        have hE := enE_spec (insC (roS σ)) (ldC (roS σ)) (i := j) (by omega)
        have hod : cP Sj 0 = pOf (cP Sj 1) (ouC (BC (roS σ)) (ldC (roS σ)) j (y0C (roS σ))).2.2.1 (cP (roS σ) 0) := by rw [← hSj]; exact cc_P _ _
        refine lv_iload_n hx hb d_Sc_reorder_31 rfl (lv_at hl 0 rfl) ?_
        refine lv_bipush (v := 24) hx hb d_Sc_reorder_32 (by decide) ?_
        refine lv_icmp_ge (tgt := 66) hx hb d_Sc_reorder_34 (by decide) (fun c34 => ?_) (fun c34 => ?_)
        · exact absurd c34 (nI_ge hj (by decide))
        · refine lv_aload_n hx hb d_Sc_reorder_37 rfl (lv_at hl 2 rfl) ?_
          refine va_get (D := gD G) (ci := 5) (v := .ref (gad G 16)) (C := R_Sc) (T := F_Sc) (N := 4) hx hb (wl_Sc hT) (fun _ h9 => h9) hown hK hP 14 rfl rfl 1 (by decide) (k_127 hT) (fun _ h9 => h9) rfl d_Sc_reorder_38 ?_
          refine lv_iload_n hx hb d_Sc_reorder_41 rfl (lv_at hl 0 rfl) ?_
          refine va_zald (f := (cJ Sj 6)) hx hb hK hP 16 2 rfl rfl (vp_in_nI hj (by decide)) d_Sc_reorder_42 ?_
          refine lv_if_eq (tgt := 60) hx hb d_Sc_reorder_43 (by decide) (fun c43 => ?_) (fun c43 => ?_)
          · refine lv_iinc (v := ((nI j) + 1)) (lv' := [(3, .int ((nI j) + 1)), (2, .int (nI (ouC (BC (roS σ)) (ldC (roS σ)) j (y0C (roS σ))).2.2.2)), (0, .ref (gad G 14)), (1, .ref (gad G 1))]) hx hb d_Sc_reorder_60 hl (k := 0) rfl rfl (by decide) rfl (fun ls hl => ?_)
            refine lv_goto (tgt := 31) hx hb d_Sc_reorder_63 (by decide) ?_
            rw [jc, e6] at c43
            have hz : (ouC (BC (roS σ)) (ldC (roS σ)) (j + 1) (y0C (roS σ))) = (ouC (BC (roS σ)) (ldC (roS σ)) j (y0C (roS σ))) := if_neg (by unfold ldC; rw [decide_eq_true c43]; decide)
            have lb3 : ((nI (j + 1)) : Int32) = ((nI j) + 1) := (nI_1 _).symm
            have lb2 : ((nI (ouC (BC (roS σ)) (ldC (roS σ)) (j + 1) (y0C (roS σ))).2.2.2) : Int32) = (nI (ouC (BC (roS σ)) (ldC (roS σ)) j (y0C (roS σ))).2.2.2) := by rw [hz]
            exact kj _ _ _ ⟨by rw [hz, hSj]; exact hP, hS, by rw [lb3, lb2]; exact lv_sub hl [0, 1, 2, 3] rfl⟩
          · refine lv_iload_n hx hb d_Sc_reorder_46 rfl (lv_at hl 1 rfl) ?_
            refine lv_aload_n hx hb d_Sc_reorder_47 rfl (lv_at hl 2 rfl) ?_
            refine lv_aload_n hx hb d_Sc_reorder_48 rfl (lv_at hl 3 rfl) ?_
            refine lv_iload_n hx hb d_Sc_reorder_49 rfl (lv_at hl 0 rfl) ?_
            refine lv_aload_n hx hb d_Sc_reorder_50 rfl (lv_at hl 2 rfl) ?_
            refine lv_iload_n hx hb d_Sc_reorder_51 rfl (lv_at hl 0 rfl) ?_
            refine cx_V (n := 1) (C := R_Sc) (As := [.int (nI j)]) (rest := [.int (nI j), .ref (gad G 1), .ref (gad G 14), .int (nI (ouC (BC (roS σ)) (ldC (roS σ)) j (y0C (roS σ))).2.2.2)]) ⟨hx, hb, hml, hown, fun _ h9 => nomatch h9⟩ (K_Sc_endOfBlock g Sj hj okj) (k_244 hT) (k_246 hT) (ks_1 hT) (k_247 hT) (k_7 hT) rfl (by decide +kernel) (va_recv hK hP (ci := 5) (q0 := 14) rfl rfl) (hc.at g hS hP) ⟨by decide, by decide⟩ ⟨by decide, by decide⟩ hl.1 (Nat.le_of_ble_eq_true rfl) d_Sc_reorder_52 (fun _ h9 => h9) hS (fun _ _ _ _ _ _ _ h9 => h9.elim) (fun v t H locs ht9 hRt hz hk hS => ?_)
            obtain ⟨r, u, rfl, ⟨er, eu⟩, hP⟩ := hRt
            subst er
            rw [eu, ht9] at hP
            have hD : va_D (gA G) (cw G Sj) := g.d
            refine W.eq (g2 := F0 m 55 ls [.int (nI (enE (insC Sj) (ldC Sj) j)), .int (nI j), .ref (gad G 1), .ref (gad G 14), .int (nI (ouC (BC (roS σ)) (ldC (roS σ)) j (y0C (roS σ))).2.2.2)]) rfl ?_
            refine W.eq (g2 := F0 m 55 ls [.int (nI (enC (roS σ) j)), .int (nI j), .ref (gad G 1), .ref (gad G 14), .int (nI (ouC (BC (roS σ)) (ldC (roS σ)) j (y0C (roS σ))).2.2.2)]) (by rw [eI, eL]; rfl) ?_
            refine cx_V (n := 3) (C := R_Sc) (As := [.ref (gad G 1), .int (nI j), .int (nI (enC (roS σ) j))]) (rest := [.int (nI (ouC (BC (roS σ)) (ldC (roS σ)) j (y0C (roS σ))).2.2.2)]) ⟨hx, hb, hml, hown, fun _ h9 => nomatch h9⟩ (K_Sc_reorderBlock g Sj (e0 := enC (roS σ) j) hE.1 hE.2.1 okj hod) (k_248 hT) (k_250 hT) (ks_2 hT) (k_251 hT) (k_7 hT) rfl (by decide +kernel) (va_recv hK hP (ci := 5) (q0 := 14) rfl rfl) (hc.at g hS hP) ⟨by decide, by decide⟩ ⟨by decide, by decide⟩ hl.1 (Nat.le_of_ble_eq_true rfl) d_Sc_reorder_55 (fun _ h9 => h9) hS (fun _ _ _ _ _ _ _ h9 => h9.elim) (fun v t H locs ht9 hRt hz hk hS => ?_)
            obtain ⟨r, u, rfl, ⟨er, eu⟩, hP⟩ := hRt
            subst er
            rw [eu, ht9] at hP
            have hD : va_D (gA G) (cw G (rbS Sj j (enC (roS σ) j) (ouC (BC (roS σ)) (ldC (roS σ)) j (y0C (roS σ))).2.2.1 (cP (roS σ) 0) (enC (roS σ) j - j))) := g.d
            refine W.eq (g2 := F0 m 58 ls [.int (nI (kC Sj j (enC (roS σ) j) (ouC (BC (roS σ)) (ldC (roS σ)) j (y0C (roS σ))).2.2.1 (enC (roS σ) j - j)).2.2), .int (nI (ouC (BC (roS σ)) (ldC (roS σ)) j (y0C (roS σ))).2.2.2)]) rfl ?_
            refine lv_iadd hx hb d_Sc_reorder_58 ?_
            refine lv_istore_n (lv' := [(2, .int ((nI (ouC (BC (roS σ)) (ldC (roS σ)) j (y0C (roS σ))).2.2.2) + (nI (kC Sj j (enC (roS σ) j) (ouC (BC (roS σ)) (ldC (roS σ)) j (y0C (roS σ))).2.2.1 (enC (roS σ) j - j)).2.2))), (3, .int (nI j)), (0, .ref (gad G 14)), (1, .ref (gad G 1))]) hx hb d_Sc_reorder_59 rfl hl (by decide) rfl (fun ls hl => ?_)
            refine lv_iinc (v := ((nI j) + 1)) (lv' := [(3, .int ((nI j) + 1)), (2, .int ((nI (ouC (BC (roS σ)) (ldC (roS σ)) j (y0C (roS σ))).2.2.2) + (nI (kC Sj j (enC (roS σ) j) (ouC (BC (roS σ)) (ldC (roS σ)) j (y0C (roS σ))).2.2.1 (enC (roS σ) j - j)).2.2))), (0, .ref (gad G 14)), (1, .ref (gad G 1))]) hx hb d_Sc_reorder_60 hl (k := 1) rfl rfl (by decide) rfl (fun ls hl => ?_)
            refine lv_goto (tgt := 31) hx hb d_Sc_reorder_63 (by decide) ?_
            rw [jc, e6] at c43
            have hz : (ouC (BC (roS σ)) (ldC (roS σ)) (j + 1) (y0C (roS σ))) = BC (roS σ) j (ouC (BC (roS σ)) (ldC (roS σ)) j (y0C (roS σ))) := if_pos (by unfold ldC; rw [decide_eq_false c43]; decide)
            have lb3 : ((nI (j + 1)) : Int32) = ((nI j) + 1) := (nI_1 _).symm
            have lb2 : ((nI (ouC (BC (roS σ)) (ldC (roS σ)) (j + 1) (y0C (roS σ))).2.2.2) : Int32) = ((nI (ouC (BC (roS σ)) (ldC (roS σ)) j (y0C (roS σ))).2.2.2) + (nI (kC Sj j (enC (roS σ) j) (ouC (BC (roS σ)) (ldC (roS σ)) j (y0C (roS σ))).2.2.1 (enC (roS σ) j - j)).2.2)) := by rw [hz, cc_kC, hSj, ← nI_add]
            exact kj _ _ _ ⟨by rw [hz, ← cc_rb, hSj]; exact hP, hS, by rw [lb3, lb2]; exact lv_sub hl [0, 1, 2, 3] rfl⟩
      · obtain ⟨hP, hS, hl⟩ := hJ
        generalize hSj : (ccS (roS σ) (ouC (BC (roS σ)) (ldC (roS σ)) 24 (y0C (roS σ)))) = Sj at hP
        have hD := g.d (σ := Sj)
        refine lv_iload_n hx hb d_Sc_reorder_31 rfl (lv_at hl 0 rfl) ?_
        refine lv_bipush (v := 24) hx hb d_Sc_reorder_32 (by decide) ?_
        refine lv_icmp_ge (tgt := 66) hx hb d_Sc_reorder_34 (by decide) (fun c34 => ?_) (fun c34 => ?_)
        · refine lv_iload_n hx hb d_Sc_reorder_66 rfl (lv_at hl 1 rfl) ?_
          exact end_i (u := Sj) hx hb hr hlocks hS hP d_Sc_reorder_67 (⟨rfl, by rw [← hSj]; rfl⟩)
        · exact absurd (nI_le (Nat.le_refl _) (by decide)) c34
    · exact absurd (nI_le (Nat.le_refl _) (by decide)) c5

set_option maxHeartbeats 4000000 in
set_option maxRecDepth 100000 in
theorem K_Pc_schedule {l : Launch} {G : GT} (g : GOK l G) (σ : CS) (wf : Wf σ) : cx_M l y_Pc_schedule (.code y_Pc_schedule b_Pc_schedule 1 (some .int)) 5 119 (gA G) [.ref (gad G 0)] (Cw G σ) (Ri G (fun r u => r = nI (scC σ).2.2.2 ∧ u = ccS (roS σ) (scC σ))) (Tn) := by
  refine cx_of (by decide +kernel) ?_
  intro p e s m below meth c s₁ B hml ht hc
  have hx := B.exec
  have hb := B.bytes
  have hr := B.returns
  have hown : s.vm.findClass R_Pc = some m.cls := findClass_of_methodNamed B.named
  have hlocks := B.notSynchronized
  have hT := g.tb hc
  have hK := g.k hc
  have hD := g.d (σ := σ)
  have hS : va_S (gA G) s.heap s.heap [] := va_S.rf
  have hP := hc.2.2
  have hl := lv_entry ([.ref (gad G 0)]) (n := 1) (Nat.le_of_ble_eq_true rfl)
  rw [lg_entry_eq]
  generalize (lg_sl ([.ref (gad G 0)]) ++ List.replicate (1 - (lg_sl ([.ref (gad G 0)])).length) Slot.unset).toArray = ls at hl ⊢
  have hl : lv_has ls 1 [(0, .ref (gad G 0))] := hl
  refine lv_aload_n hx hb d_Pc_schedule_0 rfl (lv_at hl 0 rfl) ?_
  refine va_get (D := gD G) (ci := 6) (v := .ref (gad G 14)) (C := R_Pc) (T := F_Pc) (N := 12) hx hb (wl_Pc hT) (fun _ h9 => h9) hown hK hP 0 rfl rfl 8 (by decide) (k_187 hT) (fun _ h9 => h9) rfl d_Pc_schedule_1 ?_
  refine lv_aload_n hx hb d_Pc_schedule_4 rfl (lv_at hl 0 rfl) ?_
  refine va_get (D := gD G) (ci := 6) (v := .ref (gad G 1)) (C := R_Pc) (T := F_Pc) (N := 12) hx hb (wl_Pc hT) (fun _ h9 => h9) hown hK hP 0 rfl rfl 0 (by decide) (k_179 hT) (fun _ h9 => h9) rfl d_Pc_schedule_5 ?_
  refine cx_V (n := 1) (C := R_Sc) (As := [.ref (gad G 1)]) (rest := []) ⟨hx, hb, hml, hown, fun _ h9 => nomatch h9⟩ (K_Sc_reorder g σ wf) (k_220 hT) (k_221 hT) (k_222 hT) (k_223 hT) (k_7 hT) rfl (by decide +kernel) (va_recv hK hP (ci := 5) (q0 := 14) rfl rfl) (hc.at g hS hP) ⟨by decide, by decide⟩ ⟨by decide, by decide⟩ hl.1 (Nat.le_of_ble_eq_true rfl) d_Pc_schedule_8 (fun _ h9 => h9) hS (fun _ _ _ _ _ _ _ h9 => h9.elim) (fun v t H locs ht9 hRt hz hk hS => ?_)
  obtain ⟨r, u, rfl, ⟨er, eu⟩, hP⟩ := hRt
  subst er
  rw [eu, ht9] at hP
  have hD : va_D (gA G) (cw G (ccS (roS σ) (scC σ))) := g.d
  refine W.eq (g2 := F0 m 11 ls [.int (nI (scC σ).2.2.2)]) rfl ?_
  exact end_i (u := (ccS (roS σ) (scC σ))) hx hb hr hlocks hS hP d_Pc_schedule_11 (⟨rfl, rfl⟩)

