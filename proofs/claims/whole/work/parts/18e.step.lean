section Sim5
/-! one instruction -/
theorem cm_I (σ : CS) (g : Int32) (k : Nat) (h : k ≠ 7) : cI (cmF σ g).2 k = cI σ k := by
  unfold cmF
  split
  · rfl
  · simp [cI_sI, cI_sJ, h]
theorem cm_J (σ : CS) (g : Int32) (k : Nat) (h : k ≠ 2) : cJ (cmF σ g).2 k = cJ σ k := by
  unfold cmF
  split
  · rfl
  · simp [cJ_sI, cJ_sJ, h]
theorem dm_I (σ : CS) (g : Int32) (k : Nat) (h8 : k ≠ 8) (h9 : k ≠ 9) : cI (dmF σ g).2 k = cI σ k := by
  unfold dmF
  repeat' split
  all_goals simp [cI_sI, cI_sJ, h8, h9]
theorem dm_J (σ : CS) (g : Int32) (k : Nat) (h3 : k ≠ 3) (h4 : k ≠ 4) : cJ (dmF σ g).2 k = cJ σ k := by
  unfold dmF
  repeat' split
  all_goals simp [cJ_sI, cJ_sJ, h3, h4]
theorem dm_F (σ : CS) (g : Int32) : cF (dmF σ g).2 = cF σ := by
  unfold dmF
  repeat' split
  all_goals rfl
theorem gw_I (σ : CS) (x : Int32) (j : Bool) (k : Nat) (h : k ≠ 10) : cI (gwF σ x j) k = cI σ k := by
  unfold gwF
  cases j <;> simp <;> split <;> simp [cI_sI, cI_sJ, h]
theorem gw_J (σ : CS) (x : Int32) (j : Bool) (k : Nat) (h : k ≠ 5) : cJ (gwF σ x j) k = cJ σ k := by
  unfold gwF
  cases j <;> simp <;> split <;> simp [cJ_sI, cJ_sJ, h]
theorem gw_F (σ : CS) (x : Int32) (j : Bool) : cF (gwF σ x j) = cF σ := by
  unfold gwF
  cases j <;> simp <;> split <;> rfl
theorem sh_mg {σ : CS} {τ : MS} (h : Sh σ τ) (i : Int32) : (cmF σ (i / 4)).1 = (mgF τ i).1 ∧ Sh (cmF σ (i / 4)).2 (mgF τ i).2 := by
  obtain ⟨hI, hJ, hH, h0, h1⟩ := h
  obtain ⟨e1, e2⟩ := cm_mg σ i
  obtain ⟨d1, d2, d3⟩ := mg_dep (α := pi0 σ) (β := τ) i (hJ 2 (by omega)) (hI 7 (by omega))
  refine ⟨e1.trans d1, fun k hk => ?_, fun k hk => ?_, ?_, ?_, ?_⟩
  · by_cases h7 : k = 7
    · subst h7; rw [← d3, ← e2]; rfl
    · rw [cm_I _ _ _ h7, mg_I _ _ _ h7]; exact hI k hk
  · by_cases h2 : k = 2
    · subst h2; rw [← d2, ← e2]; rfl
    · rw [cm_J _ _ _ h2, mg_J _ _ _ h2]; exact hJ k hk
  · rw [cm_J _ _ _ (by decide), mg_J _ _ _ (by decide)]; exact hH
  · rw [cmF_F, mg_F]; exact h0
  · rw [cmF_F, mg_F]; exact h1
theorem badA_in (ad : Int32) : badA ad = !inF ad 0 47 := by
  unfold badA inF
  by_cases h : ad < 0
  · rw [if_pos h, if_pos h]; rfl
  · rw [if_neg h, if_neg h]
    have e1 : (48 : Int32).toInt = 48 := by decide
    have e2 : (47 : Int32).toInt = 47 := by decide
    by_cases h2 : ad < 48
    · rw [if_pos h2, if_neg (by rw [Int32.lt_iff_toInt_lt] at h2 ⊢; omega)]; rfl
    · rw [if_neg h2, if_pos (by rw [Int32.lt_iff_toInt_lt] at h2 ⊢; omega)]; rfl
theorem bq_ad {σ : CS} {τ : MS} (q : Nat → Int32) (h0 : cJ σ 0 = mJ τ 0) : adF σ (bq q) = adM τ q := by
  unfold adF adM
  rw [h0]
  rfl
/-- what it throws -/
theorem tr_do {σ : CS} {τ : MS} {q : Nat → Int32} (hq : okM q) (h0 : cJ σ 0 = mJ τ 0) (h1 : cF σ 1 = mF τ 1) : trF τ q = nI (doT σ (bq q)) := by
  unfold trF doT
  rw [bq_ad q h0, badA_in, show memQ (bq q) = inF (q 0) 6 9 from rfl, show tgtQ (bq q) = (if q 0 < 17 then false else true) from rfl]
  have hcp : ∀ (_ : ¬ inF (q 0) 6 9 = true), tr2 τ q = nI (if (if q 0 < 17 then false else true) = true then 0 else if q 0 = 0 then 0 else if cpT σ (bq q) = true then 4 else 0) := by
    intro hm
    have key : ∀ (o : Int32), q 0 = o → (¬ inF o 10 13 = true) → (¬ o < 17 ∨ o = 0 ∨ (¬ 5 < o) ∨ o = 14 ∨ o = 15 ∨ o = 16) → tr2 τ q = nI (if (if q 0 < 17 then false else true) = true then 0 else if q 0 = 0 then 0 else if cpT σ (bq q) = true then 4 else 0) := by
      intro o e hn hd
      unfold tr2
      rw [e, if_neg hn]
      by_cases c1 : o < 17
      · rw [if_pos c1, if_neg (by decide)]
        by_cases c2 : o = 0
        · rw [if_pos c2]; rfl
        · rw [if_neg c2]
          have : cpT σ (bq q) = false := by
            unfold cpT
            rw [show bq q 0 = q 0 from rfl, e]
            rcases hd with z | z | z | z | z | z
            · exact absurd c1 z
            · exact absurd z c2
            · rw [if_neg z]
            · by_cases c5 : 5 < o
              · rw [if_pos c5, if_pos z]
              · rw [if_neg c5]
            · by_cases c5 : 5 < o
              · rw [if_pos c5, if_pos z, ite_self]
              · rw [if_neg c5]
            · by_cases c5 : 5 < o
              · rw [if_pos c5, if_pos z, ite_self, ite_self]
              · rw [if_neg c5]
          rw [this]; rfl
      · rw [if_neg c1, if_pos rfl]; rfl
    rcases ops hq.1 with e | e | e | e | e | e | e | e | e | e | e | e | e | e
    · exact key _ e (by decide) (by decide)
    · exact key _ e (by decide) (by decide)
    · exact key _ e (by decide) (by decide)
    · exact key _ e (by decide) (by decide)
    · exact key _ e (by decide) (by decide)
    · exact key _ e (by decide) (by decide)
    · exact absurd e hm
    · have k : q 0 < 17 ∧ ¬ q 0 = 0 ∧ ¬ q 0 = 14 ∧ ¬ q 0 = 15 ∧ ¬ q 0 = 16 ∧ 5 < q 0 := by rcases in1013 e with z | z | z | z <;> rw [z] <;> decide
      obtain ⟨k1, k2, k3, k4, k5, k6⟩ := k
      rw [if_pos k1, if_neg (by decide), if_neg k2]
      unfold tr2 tr3 cpT cfT dzF
      rw [if_pos e, show bq q 0 = q 0 from rfl, show bq q 2 = q 2 from rfl, show bq q 3 = q 3 from rfl, if_pos k6, if_neg k3, if_neg k4, if_neg k5, h1]
      by_cases z13 : q 0 = 13
      · rw [if_pos z13, if_neg (show ¬ q 0 = 10 by rw [z13]; decide), if_neg (show ¬ q 0 = 11 by rw [z13]; decide), if_neg (show ¬ q 0 = 12 by rw [z13]; decide)]
        by_cases z0 : Op.cmpValue (FP.dcmp (mF τ 1 (m4 (q 3))) FP.dconst0) .l = 0
        · rw [if_pos z0, if_pos z0, if_pos rfl, if_pos rfl]; rfl
        · rw [if_neg z0, if_neg z0]
          cases ovF (ocF (q 0) (mF τ 1 (m4 (q 2))) (mF τ 1 (m4 (q 3)))) <;> rfl
      · rw [if_neg z13]
        have hz : (if q 0 = 10 then false else if q 0 = 11 then false else if q 0 = 12 then false else if Op.cmpValue (FP.dcmp (mF τ 1 (m4 (q 3))) FP.dconst0) .l = 0 then true else false) = false := by
          rcases in1013 e with z | z | z | z
          · rw [if_pos z]
          · rw [if_pos z, ite_self]
          · rw [if_pos z, ite_self, ite_self]
          · exact absurd z z13
        rw [hz]
        cases ovF (ocF (q 0) (mF τ 1 (m4 (q 2))) (mF τ 1 (m4 (q 3)))) <;> rfl
    · exact key _ e (by decide) (by decide)
    · exact key _ e (by decide) (by decide)
    · exact key _ e (by decide) (by decide)
    · exact key _ e (by decide) (by decide)
    · exact key _ e (by decide) (by decide)
    · exact key _ e (by decide) (by decide)
  by_cases hm : inF (q 0) 6 9 = true
  · rw [if_pos hm, if_pos hm]
    have : tr2 τ q = 0 := by
      unfold tr2
      rw [if_neg]
      rcases in69 hm with e | e | e | e <;> rw [e] <;> decide
    rw [this]
    cases inF (adM τ q) 0 47 <;> rfl
  · rw [if_neg hm, if_neg hm]
    exact hcp hm
/-- the end of an instruction that went through -/
theorem fin_sh {σ : CS} {T2 R : MS} {q : Nat → Int32} {d : Nat} (hd : 15 * (d : Int) < 900000000) (hq : okM q) (gm lm wr jp : Bool) (hlm : lm = true → inF (q 0) 6 9 = true) (h0 : mJ T2 1 0 = 0) (hT : Tm d T2) (hg : mI T2 3 = -1 → gm = true)
    (a : ∀ k, 2 ≤ k → k ≤ 9 → cI σ k = mI T2 k) (aJ : ∀ k, 1 ≤ k → k ≤ 4 → cJ σ k = mJ T2 k) (aH : cJ σ 7 = mJ T2 11)
    (b : ∀ k, 2 ≤ k → k ≤ 9 → k ≠ 6 → mI R k = mI (ckM T2 q (tmM T2 q (t2F T2 gm) (laM q (ldI lm))) (laM q (ldI lm)) (ldI lm)) k) (b6 : mI R 6 = b2i wr) (b0 : mI R 0 = cI (dnF σ (bq q) gm lm wr jp) 0) (b1 : mI R 1 = cI σ 1) (b10 : mI R 10 = cI σ 10)
    (c : ∀ k, 1 ≤ k → k ≤ 4 → mJ R k = mJ (ckM T2 q (tmM T2 q (t2F T2 gm) (laM q (ldI lm))) (laM q (ldI lm)) (ldI lm)) k) (cH : mJ R 11 = mJ (ckM T2 q (tmM T2 q (t2F T2 gm) (laM q (ldI lm))) (laM q (ldI lm)) (ldI lm)) 11) (c0 : mJ R 0 = cJ σ 0) (c5 : mJ R 5 = cJ σ 5) (f0 : mF R 0 = cF σ 0) (f1 : mF R 1 = cF σ 1) :
    Sh (dnF σ (bq q) gm lm wr jp) R := by
  have et : beT σ (bq q) gm lm = tmM T2 q (t2F T2 gm) (laM q (ldI lm)) := bg_tm hd hq gm lm hlm (aJ 1 (by omega) (by omega)) (a 3 (by omega) (by omega)) (a 4 (by omega) (by omega)) (a 5 (by omega) (by omega)) (a 6 (by omega) (by omega)) h0 hT hg
  generalize hT3 : ckM T2 q (tmM T2 q (t2F T2 gm) (laM q (ldI lm))) (laM q (ldI lm)) (ldI lm) = T3 at b c cH
  refine ⟨fun k hk => ?_, fun k hk => ?_, ?_, ?_, ?_⟩
  · by_cases k0 : k = 0
    · subst k0; exact b0.symm
    by_cases k1 : k = 1
    · subst k1; rw [dn_I _ _ _ _ _ _ _ (by decide) (by decide), be_I _ _ _ _ _ _ (by decide) (by decide) (by decide) (by decide), b1]
    by_cases k2 : k = 2
    · subst k2; rw [dn_2, b 2 (by omega) (by omega) (by decide), ← hT3, ck_2, a 2 (by omega) (by omega)]
    by_cases k3 : k = 3
    · subst k3; rw [dn_I _ _ _ _ _ _ _ (by decide) (by decide), be_3, b 3 (by omega) (by omega) (by decide), ← hT3, ck_3, et]
    by_cases k4 : k = 4
    · subst k4; rw [dn_I _ _ _ _ _ _ _ (by decide) (by decide), be_4, b 4 (by omega) (by omega) (by decide), ← hT3, ck_4, et, a 4 (by omega) (by omega)]; rfl
    by_cases k5 : k = 5
    · subst k5; rw [dn_I _ _ _ _ _ _ _ (by decide) (by decide), be_5, b 5 (by omega) (by omega) (by decide), ← hT3, ck_5, et, a 5 (by omega) (by omega)]; rfl
    by_cases k6 : k = 6
    · subst k6; rw [dn_I _ _ _ _ _ _ _ (by decide) (by decide), be_6, b6]
    rw [dn_I _ _ _ _ _ _ _ k0 k2, be_I _ _ _ _ _ _ k3 k4 k5 k6]
    by_cases k10 : k = 10
    · subst k10; exact b10.symm
    · rw [b k (by omega) (by omega) k6, ← hT3, ck_I _ _ _ _ _ _ k2 k3 k4 k5 k6]
      exact a k (by omega) (by omega)
  · rw [dn_J]
    by_cases k1 : k = 1
    · subst k1
      rw [be_J1, c 1 (by omega) (by omega), ← hT3, ck_J1, bq5 hq, et, aJ 1 (by omega) (by omega)]
      by_cases hz : taQ q = 0
      · rw [if_pos ((cv_m1 (ta_in hq)).mpr hz), if_pos ((le0_in (ta_in hq)).mpr hz)]
      · rw [if_neg (fun z => hz ((cv_m1 (ta_in hq)).mp z)), if_neg (fun z => hz ((le0_in (ta_in hq)).mp z))]
        have e1 : cv (taQ q) = taQ q := by unfold cv; rw [if_neg hz]
        have e2 : latT (ix (bq q 0)) + ldI lm = laM q (ldI lm) := by
          show latT (ix (q 0)) + ldI lm = _
          rw [lat_q hq hz]
          unfold laM
          cases lm with
          | false => show laQ q + 0 = laQ q + (if q 0 = 6 then 0 else if q 0 = 8 then 0 else 0); rw [ite_self, ite_self]
          | true =>
            rcases in69 (hlm rfl) with e | e | e | e
            · rw [if_pos e]
            · exact absurd (by unfold taQ; simp only [e]; rfl) hz
            · rw [if_neg (by rw [e]; decide), if_pos e]
            · exact absurd (by unfold taQ; simp only [e]; rfl) hz
        rw [e1, e2]
    · rw [be_J _ _ _ _ _ _ k1]
      by_cases k0 : k = 0
      · subst k0; exact c0.symm
      · by_cases k5 : k = 5
        · subst k5; exact c5.symm
        · rw [c k (by omega) (by omega), ← hT3, ck_J _ _ _ _ _ _ k1]
          exact aJ k (by omega) (by omega)
  · rw [dn_J, be_J _ _ _ _ _ _ (by decide), cH, ← hT3, ck_J _ _ _ _ _ _ (by decide)]; exact aH
  · rw [dn_F]; exact f0.symm
  · rw [dn_F]; exact f1.symm
end Sim5
section Sim6
theorem Tm.dep {d : Nat} {α β : MS} (h : Tm d α) (e3 : mI β 3 = mI α 3) (e4 : mI β 4 = mI α 4) (e5 : mI β 5 = mI α 5) (eJ : mJ β 1 = mJ α 1) : Tm d β := by
  unfold Tm
  rw [e3, e4, e5, eJ]
  exact h
theorem Tm.more {d : Nat} {α : MS} (h : Tm d α) : Tm (d + 1) α := by
  obtain ⟨h1, h2, h3, h4⟩ := h
  refine ⟨by omega, by omega, by omega, fun k hk => ?_⟩
  have := h4 k hk
  omega
/-- the reference after an instruction that went through -/
theorem fin_ok {d : Nat} {τ T2 R : MS} {q : Nat → Int32} (gm lm : Bool) (hd : 15 * (d : Int) < 900000000) (hq : okM q) (hM : ∀ i, i < 24 → okM (mq τ i)) (hT2 : Tm d T2) (h0 : mJ T2 1 0 = 0) (hg : mI T2 3 = -1 → gm = true)
    (b : ∀ k, 3 ≤ k → k ≤ 5 → mI R k = mI (ckM T2 q (tmM T2 q (t2F T2 gm) (laM q (ldI lm))) (laM q (ldI lm)) (ldI lm)) k) (c : mJ R 1 = mJ (ckM T2 q (tmM T2 q (t2F T2 gm) (laM q (ldI lm))) (laM q (ldI lm)) (ldI lm)) 1)
    (hq2 : ∀ i, mq R i = mq τ i) (h5 : ∀ k, k < 8 → 0 ≤ (mJ R 5 k).toInt ∧ (mJ R 5 k).toInt ≤ 3) (hL : LnC (d + 1) (mI R 9) (mJ R 3) (mJ R 4)) : Mok (d + 1) R := by
  have hb := t2_b hd hT2 hg
  have ht := tm_b hd hq hT2 (laM_n hq lm) hb.1 hb.2
  refine ⟨fun i hi => by rw [hq2]; exact hM i hi, h5, ?_, ?_, ?_, hL⟩
  · rw [c]; exact ck_r0 hq h0
  · exact (ck_tm lm hd hq hT2 (by omega) ht.2).dep (b 3 (by omega) (by omega)) (b 4 (by omega) (by omega)) (b 5 (by omega) (by omega)) c
  · intro _ z
    rw [b 3 (by omega) (by omega), ck_3] at z
    have e : (-1 : Int32).toInt = -1 := by decide
    rw [z, e] at ht
    omega
theorem mdl_eq (n : Int32) : mdl n = flm n 24 := flm_mdl n
theorem jd_jm {σ : CS} {τ : MS} {q : Nat → Int32} (h0 : cJ σ 0 = mJ τ 0) (ho : q 0 = 17 ∨ q 0 = 18) : jdF σ (bq q) = jmM τ q := by
  unfold jdF jmM
  rw [show bq q 0 = q 0 from rfl, show bq q 2 = q 2 from rfl, show bq q 3 = q 3 from rfl, h0]
  rcases ho with e | e
  · rw [if_pos e, if_pos e, if_pos e]
  · have h17 : ¬ q 0 = 17 := by rw [e]; decide
    rw [if_neg h17, if_pos e, if_neg h17, if_neg h17]
theorem gw_wr {σ : CS} {τ : MS} {q : Nat → Int32} {i : Int32} (h5 : cJ σ 5 = mJ τ 5) (j : Bool) (hj : j = jmM τ q) : gwW σ i j = wrM τ i q := by
  unfold gwW wrM
  rw [h5, ← hj]
  have e1 : (1 : Int32).toInt = 1 := by decide
  have e2 : (2 : Int32).toInt = 2 := by decide
  by_cases h : mJ τ 5 (ix (i - i / 8 * 8)) < 2
  · rw [if_pos h, if_pos (by rw [Int32.lt_iff_toInt_lt] at h; rw [Int32.le_iff_toInt_le]; omega)]
  · rw [if_neg h, if_neg (by rw [Int32.lt_iff_toInt_lt] at h; rw [Int32.le_iff_toInt_le]; omega)]
theorem gw_5 {σ : CS} {τ : MS} {i : Int32} (hi : vp_in i 24) (h5 : cJ σ 5 = mJ τ 5) (hb : ∀ k, k < 8 → 0 ≤ (mJ τ 5 k).toInt ∧ (mJ τ 5 k).toInt ≤ 3) (j : Bool) : cJ (gwF σ i j) 5 = mJ (nx2 τ (ix (i - i / 8 * 8)) j) 5 ∧ ∀ k, k < 8 → 0 ≤ (mJ (nx2 τ (ix (i - i / 8 * 8)) j) 5 k).toInt ∧ (mJ (nx2 τ (ix (i - i / 8 * 8)) j) 5 k).toInt ≤ 3 := by
  have hk : ix (i - i / 8 * 8) < 8 := vp_lt (at8 hi)
  have e1 : (1 : Int32).toInt = 1 := by decide
  have e3 : (3 : Int32).toInt = 3 := by decide
  have hg : cJ (gwF σ i j) 5 = if j then upd (cJ σ 5) (ix (i - i / 8 * 8)) (imin (cJ σ 5 (ix (i - i / 8 * 8)) + 1) 3) else upd (cJ σ 5) (ix (i - i / 8 * 8)) (imax (cJ σ 5 (ix (i - i / 8 * 8)) - 1) 0) := by
    unfold gwF
    cases j <;> simp <;> split <;> rfl
  rw [hg, h5]
  generalize ix (i - i / 8 * 8) = k at hk
  have hbk := hb k hk
  have s1 := add_n (mJ τ 5 k) 1 (by rw [e1]; omega) (by rw [e1]; omega)
  have s2 := sub_n (mJ τ 5 k) 1 (by rw [e1]; omega) (by rw [e1]; omega)
  rw [e1] at s1 s2
  unfold nx2
  cases j with
  | true =>
    rw [if_pos rfl, if_pos rfl]
    by_cases h : 3 ≤ mJ τ 5 k
    · have hz : mJ τ 5 k = 3 := Int32.toInt_inj.mp (by rw [Int32.le_iff_toInt_le] at h; omega)
      have : imin (mJ τ 5 k + 1) 3 = mJ τ 5 k := by rw [hz]; decide
      rw [if_pos h, this, upd_self]
      exact ⟨rfl, hb⟩
    · have hz : ¬ 3 < mJ τ 5 k + 1 := by rw [Int32.le_iff_toInt_le] at h; rw [Int32.lt_iff_toInt_lt]; omega
      rw [if_neg h]
      unfold imin
      rw [if_neg hz]
      refine ⟨rfl, fun x hx => ?_⟩
      show 0 ≤ (upd (mJ τ 5) k (mJ τ 5 k + 1) x).toInt ∧ (upd (mJ τ 5) k (mJ τ 5 k + 1) x).toInt ≤ 3
      unfold upd
      split
      · rw [Int32.le_iff_toInt_le] at h; omega
      · exact hb x hx
  | false =>
    rw [if_neg (by decide), if_neg (by decide)]
    by_cases h : mJ τ 5 k ≤ 0
    · have hz : mJ τ 5 k = 0 := Int32.toInt_inj.mp (by rw [Int32.le_iff_toInt_le, Int32.toInt_zero] at h; rw [Int32.toInt_zero]; omega)
      have : imax (mJ τ 5 k - 1) 0 = mJ τ 5 k := by rw [hz]; decide
      rw [if_pos h, this, upd_self]
      exact ⟨rfl, hb⟩
    · have hz : ¬ mJ τ 5 k - 1 < 0 := by rw [Int32.le_iff_toInt_le, Int32.toInt_zero] at h; rw [Int32.lt_iff_toInt_lt, Int32.toInt_zero]; omega
      rw [if_neg h]
      unfold imax
      rw [if_neg hz]
      refine ⟨rfl, fun x hx => ?_⟩
      show 0 ≤ (upd (mJ τ 5) k (mJ τ 5 k - 1) x).toInt ∧ (upd (mJ τ 5) k (mJ τ 5 k - 1) x).toInt ≤ 3
      unfold upd
      split
      · rw [Int32.le_iff_toInt_le, Int32.toInt_zero] at h; omega
      · exact hb x hx
theorem gw_10 (σ : CS) (x : Int32) (j : Bool) : cI (gwF σ x j) 10 = if gwW σ x j then cI σ 10 + 1 else cI σ 10 := by
  unfold gwF
  cases j <;> simp <;> split <;> rfl
theorem nx_c (τ : MS) (k : Nat) (j w : Bool) : mI (nx2 (nx1 τ w) k j) 6 = b2i w ∧ mI (nx2 (nx1 τ w) k j) 10 = (if w then mI τ 10 + 1 else mI τ 10) ∧ (∀ x, x ≠ 6 → x ≠ 10 → mI (nx2 (nx1 τ w) k j) x = mI τ x) ∧ (∀ x, x ≠ 5 → mJ (nx2 (nx1 τ w) k j) x = mJ τ x) ∧ mF (nx2 (nx1 τ w) k j) = mF τ ∧ mJ (nx2 (nx1 τ w) k j) 5 = mJ (nx2 τ k j) 5 := by
  have a : ∀ (α : MS), mI (nx2 α k j) = mI α ∧ (∀ x, x ≠ 5 → mJ (nx2 α k j) x = mJ α x) ∧ mF (nx2 α k j) = mF α := by
    intro α
    unfold nx2
    cases j <;> simp <;> split <;> simp_all [mI_tJ, mF_tJ, mJ_tJ]
  have b : mJ (nx1 τ w) = mJ τ ∧ mF (nx1 τ w) = mF τ := by unfold nx1; cases w <;> exact ⟨rfl, rfl⟩
  obtain ⟨a1, a2, a3⟩ := a (nx1 τ w)
  refine ⟨?_, ?_, ?_, ?_, ?_, ?_⟩
  · rw [a1]; unfold nx1; cases w <;> rfl
  · rw [a1]; unfold nx1; cases w <;> rfl
  · intro x h6 h10; rw [a1]; unfold nx1; cases w <;> simp [mI_tI, h6, h10]
  · intro x h5; rw [a2 x h5, b.1]
  · rw [a3, b.2]
  · unfold nx2
    rw [b.1]
    cases j <;> simp <;> split <;> simp_all [mJ_tJ]
end Sim6
section Sim7
theorem nx_small {i : Int32} {q : Nat → Int32} (X : MS) (h : ¬ 17 ≤ q 0) : nxF X i q = ((i + 1) - (i + 1) / 24 * 24, X) := by
  unfold nxF
  rw [if_neg (fun z => h (by rw [z]; decide)), if_neg h]
/-- what is known before an instruction's work: class's σ, reference's T -/
def Pre1 (d : Nat) (σ : CS) (T : MS) (q : Nat → Int32) (gm : Bool) : Prop := 15 * (d : Int) < 900000000 ∧ okM q ∧ Sh σ T ∧ Tm d T ∧ mJ T 1 0 = 0 ∧ (∀ k, k < 8 → 0 ≤ (mJ T 5 k).toInt ∧ (mJ T 5 k).toInt ≤ 3) ∧ (mI T 3 = -1 → gm = true) ∧ LnC d (mI T 9) (mJ T 3) (mJ T 4) ∧ (∀ i, i < 24 → okM (mq T i)) ∧ cI σ 1 = 0 ∧ vp_in (cI σ 0) 24
/-- what is known after it -/
def Post1 (d : Nat) (σ : CS) (T : MS) (σ' : CS) (R : MS) : Prop := Sh σ' R ∧ Mok (d + 1) R ∧ mI R 2 = mI T 2 + 1 ∧ mI R 11 = mI T 11 ∧ (∀ j, mq R j = mq T j) ∧ cP σ' = cP σ ∧ cQ σ' = cQ σ
/-- the ends in common: what the reference's R keeps of the state T3 behind the clock -/
theorem post_of {d : Nat} {σ σ3 : CS} {T T2 R : MS} {q : Nat → Int32} {gm lm wr jp : Bool} (p : Pre1 d σ T q gm) (hlm : lm = true → inF (q 0) 6 9 = true)
    (T2I : ∀ k, k ≠ 8 → k ≠ 9 → mI T2 k = mI T k) (T2J : ∀ k, k ≠ 3 → k ≠ 4 → mJ T2 k = mJ T k) (T2q : mq T2 = mq T) (hL2 : LnC (d + 1) (mI T2 9) (mJ T2 3) (mJ T2 4))
    (s8 : cI σ3 8 = mI T2 8) (s9 : cI σ3 9 = mI T2 9) (s3 : cJ σ3 3 = mJ T2 3) (s4 : cJ σ3 4 = mJ T2 4) (sI : ∀ k, 2 ≤ k → k ≤ 7 → cI σ3 k = cI σ k) (sJ : ∀ k, 1 ≤ k → k ≤ 2 → cJ σ3 k = cJ σ k) (s7 : cJ σ3 7 = cJ σ 7) (sP : cP σ3 = cP σ) (sQ : cQ σ3 = cQ σ)
    (RI : ∀ k, 2 ≤ k → k ≠ 6 → k ≠ 10 → mI R k = mI (ckM T2 q (tmM T2 q (t2F T2 gm) (laM q (ldI lm))) (laM q (ldI lm)) (ldI lm)) k) (R6 : mI R 6 = b2i wr) (R0 : mI R 0 = cI (dnF σ3 (bq q) gm lm wr jp) 0) (R1 : mI R 1 = cI σ3 1) (R10 : mI R 10 = cI σ3 10)
    (RJ : ∀ k, k ≠ 0 → k ≠ 5 → mJ R k = mJ (ckM T2 q (tmM T2 q (t2F T2 gm) (laM q (ldI lm))) (laM q (ldI lm)) (ldI lm)) k) (RJ0 : mJ R 0 = cJ σ3 0) (RJ5 : mJ R 5 = cJ σ3 5) (R5 : ∀ k, k < 8 → 0 ≤ (mJ R 5 k).toInt ∧ (mJ R 5 k).toInt ≤ 3) (RF0 : mF R 0 = cF σ3 0) (RF1 : mF R 1 = cF σ3 1) (Rq : mq R = mq T) :
    Post1 d σ T (dnF σ3 (bq q) gm lm wr jp) R := by
  obtain ⟨hd, hq, ⟨sI_, sJ_, sH, sF0, sF1⟩, hT, h10, h5b, g1, hL, hok, st, hi⟩ := p
  have hT2 : Tm d T2 := hT.dep (T2I 3 (by decide) (by decide)) (T2I 4 (by decide) (by decide)) (T2I 5 (by decide) (by decide)) (T2J 1 (by decide) (by decide))
  have h20 : mJ T2 1 0 = 0 := by rw [T2J 1 (by decide) (by decide)]; exact h10
  have g2 : mI T2 3 = -1 → gm = true := by rw [T2I 3 (by decide) (by decide)]; exact g1
  refine ⟨?_, ?_, ?_, ?_, fun j => congrFun Rq j, by rw [dn_P]; exact sP, by rw [dn_Q]; exact sQ⟩
  · refine fin_sh hd hq gm lm wr jp hlm h20 hT2 g2 (fun k h1 h2 => ?_) (fun k h1 h2 => ?_) ?_ (fun k h1 h2 h6 => RI k h1 h6 (by omega)) R6 R0 R1 R10 (fun k h1 h2 => RJ k (by omega) (by omega)) (RJ 11 (by decide) (by decide)) RJ0 RJ5 RF0 RF1
    · by_cases k8 : k = 8
      · subst k8; exact s8
      by_cases k9 : k = 9
      · subst k9; exact s9
      rw [sI k h1 (by omega), T2I k k8 k9]; exact sI_ k (by omega)
    · by_cases k3 : k = 3
      · subst k3; exact s3
      by_cases k4 : k = 4
      · subst k4; exact s4
      rw [sJ k h1 (by omega), T2J k k3 k4]; exact sJ_ k (by omega)
    · rw [s7, T2J 11 (by decide) (by decide)]; exact sH
  · refine fin_ok (τ := T) (T2 := T2) (q := q) gm lm hd hq hok hT2 h20 g2 (fun k h1 h2 => RI k (by omega) (by omega) (by omega)) (RJ 1 (by decide) (by decide)) (fun j => congrFun Rq j) R5 ?_
    rw [RI 9 (by decide) (by decide) (by decide), RJ 3 (by decide) (by decide), RJ 4 (by decide) (by decide), ck_I _ _ _ _ _ 9 (by decide) (by decide) (by decide) (by decide) (by decide), ck_J _ _ _ _ _ 3 (by decide), ck_J _ _ _ _ _ 4 (by decide)]
    exact hL2
  · rw [RI 2 (by decide) (by decide) (by decide), ck_2, T2I 2 (by decide) (by decide)]
  · rw [RI 11 (by decide) (by decide) (by decide), ck_I _ _ _ _ _ 11 (by decide) (by decide) (by decide) (by decide) (by decide), T2I 11 (by decide) (by decide)]
theorem s_mem {d : Nat} {σ : CS} {T : MS} {q : Nat → Int32} {gm : Bool} (p : Pre1 d σ T q gm) (hm : inF (q 0) 6 9 = true) (tr0 : trF T q = 0) :
    Post1 d σ T (dnF (dmF (mvF σ (bq q) (adF σ (bq q))) (adF σ (bq q) / 4)).2 (bq q) gm (dmF (mvF σ (bq q) (adF σ (bq q))) (adF σ (bq q) / 4)).1 false false) (mdN (ma2 T q).2 (cI σ 0) q gm (ma2 T q).1) := by
  have p0 := p
  obtain ⟨hd, hq, ⟨sI_, sJ_, sH, sF0, sF1⟩, hT, h10, h5b, g1, hL, hok, st, hi⟩ := p0
  have had := bq_ad (τ := T) q (sJ_ 0 (by omega))
  have hin : vp_in (adM T q) 48 := ad_in tr0 hm
  have ma : ma2 T q = mlF T (adM T q) := by
    unfold ma2
    rw [if_pos hm, if_pos tr0]
  have emv : pi0 (mvF σ (bq q) (adF σ (bq q))) = cpM (pi0 σ) q := mv_cp σ (q := bq q) hq hm
  rw [ma, had]
  rw [had] at emv
  have eP : cP (mvF σ (bq q) (adM T q)) = cP σ := mvF_P _ _ _
  have eQ : cQ (mvF σ (bq q) (adM T q)) = cQ σ := mvF_Q _ _ _
  generalize mvF σ (bq q) (adM T q) = σ2 at *
  generalize adM T q = ad at *
  have vI : ∀ k, cI σ2 k = cI σ k := fun k => by
    have : mI (pi0 σ2) k = mI (pi0 σ) k := by rw [emv, cp_I]
    exact this
  have vJ : ∀ k, k ≠ 0 → cJ σ2 k = cJ σ k := fun k hk => by
    have : mJ (pi0 σ2) k = mJ (pi0 σ) k := by rw [emv, cp_J _ _ _ hk]
    exact this
  have hls : LnS (pi0 σ2) (ix ((ad / 4 - ad / 4 / 2 * 2) * 2)) (ix ((ad / 4 - ad / 4 / 2 * 2) * 2 + 1)) := by
    have := hL.s hin
    unfold LnS at this ⊢
    rw [show mJ (pi0 σ2) 3 = mJ T 3 from (vJ 3 (by decide)).trans (sJ_ 3 (by omega)), show mJ (pi0 σ2) 4 = mJ T 4 from (vJ 4 (by decide)).trans (sJ_ 4 (by omega))]
    exact this
  obtain ⟨m1, m2⟩ := dm_ml σ2 ad hls
  obtain ⟨p1, p3, p4, p8, p9⟩ := ml_dep (α := pi0 σ2) (β := T) ad ((vJ 3 (by decide)).trans (sJ_ 3 (by omega))) ((vJ 4 (by decide)).trans (sJ_ 4 (by omega))) ((vI 8).trans (sI_ 8 (by omega))) ((vI 9).trans (sI_ 9 (by omega)))
  rw [← m2] at p3 p4 p8 p9
  rw [m1.trans p1]
  have T2F := ml_F T ad
  have T2I := fun k h8 h9 => ml_I T ad k h8 h9
  have T2J := fun k h3 h4 => ml_J T ad k h3 h4
  have T2q := ml_q T ad
  have hL2 := hL.ml (by omega) hin
  generalize (mlF T ad).1 = lm at *
  generalize (mlF T ad).2 = T2 at *
  have n0 : ¬ q 0 = 0 := by rcases in69 hm with e | e | e | e <;> rw [e] <;> decide
  have n17 : ¬ 17 ≤ q 0 := by rcases in69 hm with e | e | e | e <;> rw [e] <;> decide
  have emd : mdN T2 (cI σ 0) q gm lm = tI (cpM (ckM T2 q (tmM T2 q (t2F T2 gm) (laM q (ldI lm))) (laM q (ldI lm)) (ldI lm)) q) 0 ((cI σ 0 + 1) - (cI σ 0 + 1) / 24 * 24) := by
    show mdE (ckM T2 q (tmM T2 q (t2F T2 gm) (laM q (ldI lm))) (laM q (ldI lm)) (ldI lm)) (cI σ 0) q = _
    unfold mdE
    rw [if_neg n0, nx_small _ n17]
  have cI2 := ck_I T2 q (tmM T2 q (t2F T2 gm) (laM q (ldI lm))) (laM q (ldI lm)) (ldI lm)
  have cJ2 := ck_J T2 q (tmM T2 q (t2F T2 gm) (laM q (ldI lm))) (laM q (ldI lm)) (ldI lm)
  have cF2 := ck_F T2 q (tmM T2 q (t2F T2 gm) (laM q (ldI lm))) (laM q (ldI lm)) (ldI lm)
  have cq2 := ck_q T2 q (tmM T2 q (t2F T2 gm) (laM q (ldI lm))) (laM q (ldI lm)) (ldI lm)
  have c26 := ck_6 T2 q (tmM T2 q (t2F T2 gm) (laM q (ldI lm))) (laM q (ldI lm)) (ldI lm)
  rw [emd]
  refine post_of (T2 := T2) p (fun _ => hm) T2I T2J T2q hL2 p8 p9 p3 p4 ?_ ?_ ?_ ?_ ?_ ?_ ?_ ?_ ?_ ?_ ?_ ?_ ?_ ?_ ?_ ?_ ?_
  · intro k h1 h2; rw [dm_I _ _ _ (by omega) (by omega), vI]
  · intro k h1 h2; rw [dm_J _ _ _ (by omega) (by omega), vJ k (by omega)]
  · rw [dm_J _ _ _ (by decide) (by decide), vJ 7 (by decide)]
  · rw [dmF_P]; exact eP
  · rw [dmF_Q]; exact eQ
  · intro k h1 h2 h3
    rw [mI_tI, if_neg (by omega), cp_I]
  · rw [mI_tI, if_neg (by decide), cp_I, c26]; rfl
  · rw [dn_0 _ _ _ _ _ _ (by rw [dm_I _ _ _ (by decide) (by decide), vI]; exact st), dm_I _ _ _ (by decide) (by decide), vI]; rfl
  · rw [mI_tI, if_neg (by decide), cp_I, cI2 1 (by decide) (by decide) (by decide) (by decide) (by decide), T2I 1 (by decide) (by decide), dm_I _ _ _ (by decide) (by decide), vI]; exact (sI_ 1 (by omega)).symm
  · rw [mI_tI, if_neg (by decide), cp_I, cI2 10 (by decide) (by decide) (by decide) (by decide) (by decide), T2I 10 (by decide) (by decide), dm_I _ _ _ (by decide) (by decide), vI]; exact (sI_ 10 (by omega)).symm
  · intro k h1 h2; rw [mJ_tI, cp_J _ _ _ h1]
  · have dp := cp_dep (α := pi0 σ) (β := ckM T2 q (tmM T2 q (t2F T2 gm) (laM q (ldI lm))) (laM q (ldI lm)) (ldI lm)) q ((sJ_ 0 (by omega)).trans (by rw [cJ2 0 (by decide), T2J 0 (by decide) (by decide)])) (sF0.trans (by rw [cF2, T2F])) (sF1.trans (by rw [cF2, T2F]))
    rw [← emv] at dp
    rw [mJ_tI, dm_J _ _ _ (by decide) (by decide)]; exact dp.1.symm
  · rw [mJ_tI, cp_J _ _ _ (by decide), cJ2 5 (by decide), T2J 5 (by decide) (by decide), dm_J _ _ _ (by decide) (by decide), vJ 5 (by decide)]; exact (sJ_ 5 (by omega)).symm
  · rw [mJ_tI, cp_J _ _ _ (by decide), cJ2 5 (by decide), T2J 5 (by decide) (by decide)]; exact h5b
  · have dp := cp_dep (α := pi0 σ) (β := ckM T2 q (tmM T2 q (t2F T2 gm) (laM q (ldI lm))) (laM q (ldI lm)) (ldI lm)) q ((sJ_ 0 (by omega)).trans (by rw [cJ2 0 (by decide), T2J 0 (by decide) (by decide)])) (sF0.trans (by rw [cF2, T2F])) (sF1.trans (by rw [cF2, T2F]))
    rw [← emv] at dp
    rw [mF_tI, dm_F]; exact dp.2.1.symm
  · have dp := cp_dep (α := pi0 σ) (β := ckM T2 q (tmM T2 q (t2F T2 gm) (laM q (ldI lm))) (laM q (ldI lm)) (ldI lm)) q ((sJ_ 0 (by omega)).trans (by rw [cJ2 0 (by decide), T2J 0 (by decide) (by decide)])) (sF0.trans (by rw [cF2, T2F])) (sF1.trans (by rw [cF2, T2F]))
    rw [← emv] at dp
    rw [mF_tI, dm_F]; exact dp.2.2.symm
  · rw [mq_tI, cp_q, cq2, T2q]
theorem ma_no {T : MS} {q : Nat → Int32} (h : ¬ inF (q 0) 6 9 = true) : ma2 T q = (false, T) := by
  unfold ma2
  rw [if_neg h]
theorem s_cmp {d : Nat} {σ : CS} {T : MS} {q : Nat → Int32} {gm : Bool} (p : Pre1 d σ T q gm) (hc : cmpQ (q 0)) :
    Post1 d σ T (dnF (cpF σ (bq q)) (bq q) gm false false false) (mdN T (cI σ 0) q gm false) := by
  have p0 := p
  obtain ⟨hd, hq, ⟨sI_, sJ_, sH, sF0, sF1⟩, hT, h10, h5b, g1, hL, hok, st, hi⟩ := p0
  have n0 : ¬ q 0 = 0 ∧ ¬ 17 ≤ q 0 := by
    rcases hc with e | e | e | e | e | e | e | e | e
    · rw [e]; decide
    · rw [e]; decide
    · rw [e]; decide
    · rw [e]; decide
    · rw [e]; decide
    · rcases in1013 e with z | z | z | z <;> rw [z] <;> decide
    · rw [e]; decide
    · rw [e]; decide
    · rw [e]; decide
  have ecp : pi0 (cpF σ (bq q)) = cpM (pi0 σ) q := cp_cp σ (q := bq q) hq hc
  have eP : cP (cpF σ (bq q)) = cP σ := cpF_P _ _
  have eQ : cQ (cpF σ (bq q)) = cQ σ := cpF_Q _ _
  generalize cpF σ (bq q) = σ2 at *
  have vI : ∀ k, cI σ2 k = cI σ k := fun k => by
    have : mI (pi0 σ2) k = mI (pi0 σ) k := by rw [ecp, cp_I]
    exact this
  have vJ : ∀ k, k ≠ 0 → cJ σ2 k = cJ σ k := fun k hk => by
    have : mJ (pi0 σ2) k = mJ (pi0 σ) k := by rw [ecp, cp_J _ _ _ hk]
    exact this
  have emd : mdN T (cI σ 0) q gm false = tI (cpM (ckM T q (tmM T q (t2F T gm) (laM q (ldI false))) (laM q (ldI false)) (ldI false)) q) 0 ((cI σ 0 + 1) - (cI σ 0 + 1) / 24 * 24) := by
    show mdE (ckM T q (tmM T q (t2F T gm) (laM q (ldI false))) (laM q (ldI false)) (ldI false)) (cI σ 0) q = _
    unfold mdE
    rw [if_neg n0.1, nx_small _ n0.2]
  have cI2 := ck_I T q (tmM T q (t2F T gm) (laM q (ldI false))) (laM q (ldI false)) (ldI false)
  have cJ2 := ck_J T q (tmM T q (t2F T gm) (laM q (ldI false))) (laM q (ldI false)) (ldI false)
  have cF2 := ck_F T q (tmM T q (t2F T gm) (laM q (ldI false))) (laM q (ldI false)) (ldI false)
  have cq2 := ck_q T q (tmM T q (t2F T gm) (laM q (ldI false))) (laM q (ldI false)) (ldI false)
  have c26 := ck_6 T q (tmM T q (t2F T gm) (laM q (ldI false))) (laM q (ldI false)) (ldI false)
  have dp := cp_dep (α := pi0 σ) (β := ckM T q (tmM T q (t2F T gm) (laM q (ldI false))) (laM q (ldI false)) (ldI false)) q ((sJ_ 0 (by omega)).trans (by rw [cJ2 0 (by decide)])) (sF0.trans (by rw [cF2])) (sF1.trans (by rw [cF2]))
  rw [← ecp] at dp
  rw [emd]
  refine post_of (T2 := T) p (fun z => Bool.noConfusion z) (fun _ _ _ => rfl) (fun _ _ _ => rfl) rfl (hL.more (Nat.le_succ d)) ((vI 8).trans (sI_ 8 (by omega))) ((vI 9).trans (sI_ 9 (by omega))) ((vJ 3 (by decide)).trans (sJ_ 3 (by omega))) ((vJ 4 (by decide)).trans (sJ_ 4 (by omega))) (fun k _ _ => vI k) (fun k h1 _ => vJ k (by omega)) (vJ 7 (by decide)) eP eQ ?_ ?_ ?_ ?_ ?_ ?_ ?_ ?_ ?_ ?_ ?_ ?_
  · intro k h1 h2 h3
    rw [mI_tI, if_neg (by omega), cp_I]
  · rw [mI_tI, if_neg (by decide), cp_I, c26]; rfl
  · rw [dn_0 _ _ _ _ _ _ (by rw [vI]; exact st), vI]; rfl
  · rw [mI_tI, if_neg (by decide), cp_I, cI2 1 (by decide) (by decide) (by decide) (by decide) (by decide), vI]; exact (sI_ 1 (by omega)).symm
  · rw [mI_tI, if_neg (by decide), cp_I, cI2 10 (by decide) (by decide) (by decide) (by decide) (by decide), vI]; exact (sI_ 10 (by omega)).symm
  · intro k h1 h2; rw [mJ_tI, cp_J _ _ _ h1]
  · rw [mJ_tI]; exact dp.1.symm
  · rw [mJ_tI, cp_J _ _ _ (by decide), cJ2 5 (by decide), vJ 5 (by decide)]; exact (sJ_ 5 (by omega)).symm
  · rw [mJ_tI, cp_J _ _ _ (by decide), cJ2 5 (by decide)]; exact h5b
  · rw [mF_tI]; exact dp.2.1.symm
  · rw [mF_tI]; exact dp.2.2.symm
  · rw [mq_tI, cp_q, cq2]
theorem s_halt {d : Nat} {σ : CS} {T : MS} {q : Nat → Int32} {gm : Bool} (p : Pre1 d σ T q gm) (h0 : q 0 = 0) :
    Post1 d σ T (dnF (sI σ 1 1) (bq q) gm false false false) (mdN T (cI σ 0) q gm false) := by
  have p0 := p
  obtain ⟨hd, hq, ⟨sI_, sJ_, sH, sF0, sF1⟩, hT, h10, h5b, g1, hL, hok, st, hi⟩ := p0
  have emd : mdN T (cI σ 0) q gm false = tI (ckM T q (tmM T q (t2F T gm) (laM q (ldI false))) (laM q (ldI false)) (ldI false)) 1 1 := by
    show mdE (ckM T q (tmM T q (t2F T gm) (laM q (ldI false))) (laM q (ldI false)) (ldI false)) (cI σ 0) q = _
    unfold mdE
    rw [if_pos h0, cp_id _ (Or.inl h0)]
  have cI2 := ck_I T q (tmM T q (t2F T gm) (laM q (ldI false))) (laM q (ldI false)) (ldI false)
  have cJ2 := ck_J T q (tmM T q (t2F T gm) (laM q (ldI false))) (laM q (ldI false)) (ldI false)
  have cF2 := ck_F T q (tmM T q (t2F T gm) (laM q (ldI false))) (laM q (ldI false)) (ldI false)
  have cq2 := ck_q T q (tmM T q (t2F T gm) (laM q (ldI false))) (laM q (ldI false)) (ldI false)
  have c26 := ck_6 T q (tmM T q (t2F T gm) (laM q (ldI false))) (laM q (ldI false)) (ldI false)
  rw [emd]
  have vI : ∀ k, k ≠ 1 → cI (sI σ 1 1) k = cI σ k := fun k hk => by rw [cI_sI, if_neg hk]
  refine post_of (T2 := T) p (fun z => Bool.noConfusion z) (fun _ _ _ => rfl) (fun _ _ _ => rfl) rfl (hL.more (Nat.le_succ d)) (sI_ 8 (by omega)) (sI_ 9 (by omega)) (sJ_ 3 (by omega)) (sJ_ 4 (by omega)) (fun k h1 _ => vI k (by omega)) (fun k _ _ => rfl) rfl rfl rfl ?_ ?_ ?_ ?_ ?_ ?_ ?_ ?_ ?_ ?_ ?_ ?_
  · intro k h1 h2 h3
    rw [mI_tI, if_neg (by omega)]
  · rw [mI_tI, if_neg (by decide), c26]; rfl
  · rw [dn_0h _ _ _ _ _ _ (by rw [cI_sI, if_pos rfl]; decide), vI 0 (by decide), mI_tI, if_neg (by decide), cI2 0 (by decide) (by decide) (by decide) (by decide) (by decide)]; exact (sI_ 0 (by omega)).symm
  · rfl
  · rw [mI_tI, if_neg (by decide), cI2 10 (by decide) (by decide) (by decide) (by decide) (by decide), vI 10 (by decide)]; exact (sI_ 10 (by omega)).symm
  · intro k h1 h2; rw [mJ_tI]
  · rw [mJ_tI, cJ2 0 (by decide)]; exact (sJ_ 0 (by omega)).symm
  · rw [mJ_tI, cJ2 5 (by decide)]; exact (sJ_ 5 (by omega)).symm
  · rw [mJ_tI, cJ2 5 (by decide)]; exact h5b
  · rw [mF_tI, cF2]; exact sF0.symm
  · rw [mF_tI, cF2]; exact sF1.symm
  · rw [mq_tI, cq2]
theorem s_jump {d : Nat} {σ : CS} {T : MS} {q : Nat → Int32} {gm : Bool} (p : Pre1 d σ T q gm) (h0 : q 0 = 19) :
    Post1 d σ T (dnF σ (bq q) gm false false (jdF σ (bq q))) (mdN T (cI σ 0) q gm false) := by
  have p0 := p
  obtain ⟨hd, hq, ⟨sI_, sJ_, sH, sF0, sF1⟩, hT, h10, h5b, g1, hL, hok, st, hi⟩ := p0
  have ej : jdF σ (bq q) = true := by
    unfold jdF
    rw [show bq q 0 = q 0 from rfl, if_neg (by rw [h0]; decide), if_neg (by rw [h0]; decide)]
  have emd : mdN T (cI σ 0) q gm false = tI (ckM T q (tmM T q (t2F T gm) (laM q (ldI false))) (laM q (ldI false)) (ldI false)) 0 (mdl (q 4)) := by
    show mdE (ckM T q (tmM T q (t2F T gm) (laM q (ldI false))) (laM q (ldI false)) (ldI false)) (cI σ 0) q = _
    unfold mdE
    rw [if_neg (by rw [h0]; decide), cp_id _ (Or.inr (Or.inr (Or.inr h0)))]
    unfold nxF
    rw [if_pos h0]
  have cI2 := ck_I T q (tmM T q (t2F T gm) (laM q (ldI false))) (laM q (ldI false)) (ldI false)
  have cJ2 := ck_J T q (tmM T q (t2F T gm) (laM q (ldI false))) (laM q (ldI false)) (ldI false)
  have cF2 := ck_F T q (tmM T q (t2F T gm) (laM q (ldI false))) (laM q (ldI false)) (ldI false)
  have cq2 := ck_q T q (tmM T q (t2F T gm) (laM q (ldI false))) (laM q (ldI false)) (ldI false)
  have c26 := ck_6 T q (tmM T q (t2F T gm) (laM q (ldI false))) (laM q (ldI false)) (ldI false)
  rw [emd, ej]
  refine post_of (T2 := T) p (fun z => Bool.noConfusion z) (fun _ _ _ => rfl) (fun _ _ _ => rfl) rfl (hL.more (Nat.le_succ d)) (sI_ 8 (by omega)) (sI_ 9 (by omega)) (sJ_ 3 (by omega)) (sJ_ 4 (by omega)) (fun k h1 _ => rfl) (fun k _ _ => rfl) rfl rfl rfl ?_ ?_ ?_ ?_ ?_ ?_ ?_ ?_ ?_ ?_ ?_ ?_
  · intro k h1 h2 h3
    rw [mI_tI, if_neg (by omega)]
  · rw [mI_tI, if_neg (by decide), c26]; rfl
  · rw [dn_0 _ _ _ _ _ _ st, if_pos rfl, mI_tI, if_pos rfl, mdl_eq]
    rfl
  · rw [mI_tI, if_neg (by decide), cI2 1 (by decide) (by decide) (by decide) (by decide) (by decide)]; exact (sI_ 1 (by omega)).symm
  · rw [mI_tI, if_neg (by decide), cI2 10 (by decide) (by decide) (by decide) (by decide) (by decide)]; exact (sI_ 10 (by omega)).symm
  · intro k h1 h2; rw [mJ_tI]
  · rw [mJ_tI, cJ2 0 (by decide)]; exact (sJ_ 0 (by omega)).symm
  · rw [mJ_tI, cJ2 5 (by decide)]; exact (sJ_ 5 (by omega)).symm
  · rw [mJ_tI, cJ2 5 (by decide)]; exact h5b
  · rw [mF_tI, cF2]; exact sF0.symm
  · rw [mF_tI, cF2]; exact sF1.symm
  · rw [mq_tI, cq2]
theorem nx2_q (τ : MS) (k : Nat) (j : Bool) : mq (nx2 τ k j) = mq τ := by
  unfold nx2
  cases j <;> simp <;> split <;> first | rfl | rw [mq_tJ _ _ _ (by decide)]
theorem nx1_q (τ : MS) (w : Bool) : mq (nx1 τ w) = mq τ := by unfold nx1; cases w <;> rfl
theorem nx2_dep {α β : MS} (h : mJ α 5 = mJ β 5) (k : Nat) (j : Bool) : mJ (nx2 α k j) 5 = mJ (nx2 β k j) 5 := by
  unfold nx2
  rw [h]
  cases j <;> simp <;> split <;> simp_all [mJ_tJ]
theorem s_cond {d : Nat} {σ : CS} {T : MS} {q : Nat → Int32} {gm : Bool} (p : Pre1 d σ T q gm) (h0 : q 0 = 17 ∨ q 0 = 18) :
    Post1 d σ T (dnF (gwF σ (cI σ 0) (jdF σ (bq q))) (bq q) gm false (gwW σ (cI σ 0) (jdF σ (bq q))) (jdF σ (bq q))) (mdN T (cI σ 0) q gm false) := by
  have p0 := p
  obtain ⟨hd, hq, ⟨sI_, sJ_, sH, sF0, sF1⟩, hT, h10, h5b, g1, hL, hok, st, hi⟩ := p0
  have cI2 := ck_I T q (tmM T q (t2F T gm) (laM q (ldI false))) (laM q (ldI false)) (ldI false)
  have cJ2 := ck_J T q (tmM T q (t2F T gm) (laM q (ldI false))) (laM q (ldI false)) (ldI false)
  have cF2 := ck_F T q (tmM T q (t2F T gm) (laM q (ldI false))) (laM q (ldI false)) (ldI false)
  have cq2 := ck_q T q (tmM T q (t2F T gm) (laM q (ldI false))) (laM q (ldI false)) (ldI false)
  have h17 : 17 ≤ q 0 := by rcases h0 with e | e <;> rw [e] <;> decide
  have h19 : ¬ q 0 = 19 := by rcases h0 with e | e <;> rw [e] <;> decide
  have hn0 : ¬ q 0 = 0 := by rcases h0 with e | e <;> rw [e] <;> decide
  have c26 := ck_6 T q (tmM T q (t2F T gm) (laM q (ldI false))) (laM q (ldI false)) (ldI false)
  have emd : mdN T (cI σ 0) q gm false = tI (nx2 (nx1 (ckM T q (tmM T q (t2F T gm) (laM q (ldI false))) (laM q (ldI false)) (ldI false)) (wrM (ckM T q (tmM T q (t2F T gm) (laM q (ldI false))) (laM q (ldI false)) (ldI false)) (cI σ 0) q)) (ix (cI σ 0 - cI σ 0 / 8 * 8)) (jmM (ckM T q (tmM T q (t2F T gm) (laM q (ldI false))) (laM q (ldI false)) (ldI false)) q)) 0 (if jmM (ckM T q (tmM T q (t2F T gm) (laM q (ldI false))) (laM q (ldI false)) (ldI false)) q then mdl (q 4) else (cI σ 0 + 1) - (cI σ 0 + 1) / 24 * 24) := by
    show mdE (ckM T q (tmM T q (t2F T gm) (laM q (ldI false))) (laM q (ldI false)) (ldI false)) (cI σ 0) q = _
    unfold mdE
    rw [if_neg hn0, cp_id _ (Or.inr (h0.elim Or.inl (fun z => Or.inr (Or.inl z))))]
    unfold nxF
    rw [if_neg h19, if_pos h17]
  have ej := jd_jm (σ := σ) (τ := ckM T q (tmM T q (t2F T gm) (laM q (ldI false))) (laM q (ldI false)) (ldI false)) ((sJ_ 0 (by omega)).trans (cJ2 0 (by decide)).symm) h0
  have ew := gw_wr (σ := σ) (τ := ckM T q (tmM T q (t2F T gm) (laM q (ldI false))) (laM q (ldI false)) (ldI false)) (i := cI σ 0) ((sJ_ 5 (by omega)).trans (cJ2 5 (by decide)).symm) _ ej
  have e5 := gw_5 (σ := σ) (τ := ckM T q (tmM T q (t2F T gm) (laM q (ldI false))) (laM q (ldI false)) (ldI false)) hi ((sJ_ 5 (by omega)).trans (cJ2 5 (by decide)).symm) (by rw [cJ2 5 (by decide)]; exact h5b) (jdF σ (bq q))
  rw [emd, ← ew, ← ej]
  have nc := nx_c (ckM T q (tmM T q (t2F T gm) (laM q (ldI false))) (laM q (ldI false)) (ldI false)) (ix (cI σ 0 - cI σ 0 / 8 * 8)) (jdF σ (bq q)) (gwW σ (cI σ 0) (jdF σ (bq q)))
  have e10 := gw_10 σ (cI σ 0) (jdF σ (bq q))
  have gI := gw_I σ (cI σ 0) (jdF σ (bq q))
  have gJ := gw_J σ (cI σ 0) (jdF σ (bq q))
  have gF := gw_F σ (cI σ 0) (jdF σ (bq q))
  have gP := gwF_P σ (cI σ 0) (jdF σ (bq q))
  have gQ := gwF_Q σ (cI σ 0) (jdF σ (bq q))
  have nq : mq (nx2 (nx1 (ckM T q (tmM T q (t2F T gm) (laM q (ldI false))) (laM q (ldI false)) (ldI false)) (gwW σ (cI σ 0) (jdF σ (bq q)))) (ix (cI σ 0 - cI σ 0 / 8 * 8)) (jdF σ (bq q))) = mq T := by rw [nx2_q, nx1_q, cq2]
  clear emd ej ew
  generalize jdF σ (bq q) = j at *
  generalize gwW σ (cI σ 0) j = w at *
  generalize gwF σ (cI σ 0) j = σ2 at *
  obtain ⟨n6, n10, nI_, nJ, nF, n5⟩ := nc
  generalize nx2 (nx1 (ckM T q (tmM T q (t2F T gm) (laM q (ldI false))) (laM q (ldI false)) (ldI false)) w) (ix (cI σ 0 - cI σ 0 / 8 * 8)) j = X at *
  refine post_of (T2 := T) p (fun z => Bool.noConfusion z) (fun _ _ _ => rfl) (fun _ _ _ => rfl) rfl (hL.more (Nat.le_succ d)) ((gI 8 (by decide)).trans (sI_ 8 (by omega))) ((gI 9 (by decide)).trans (sI_ 9 (by omega))) ((gJ 3 (by decide)).trans (sJ_ 3 (by omega))) ((gJ 4 (by decide)).trans (sJ_ 4 (by omega))) (fun k h1 _ => gI k (by omega)) (fun k _ _ => gJ k (by omega)) (gJ 7 (by decide)) gP gQ ?_ ?_ ?_ ?_ ?_ ?_ ?_ ?_ ?_ ?_ ?_ ?_
  · intro k h1 h2 h3
    rw [mI_tI, if_neg (by omega), nI_ k h2 h3]
  · rw [mI_tI, if_neg (by decide)]; exact n6
  · rw [dn_0 _ _ _ _ _ _ (by rw [gI 1 (by decide)]; exact st), mI_tI, if_pos rfl, gI 0 (by decide), mdl_eq]
    rfl
  · rw [mI_tI, if_neg (by decide), nI_ 1 (by decide) (by decide), cI2 1 (by decide) (by decide) (by decide) (by decide) (by decide), gI 1 (by decide)]; exact (sI_ 1 (by omega)).symm
  · rw [mI_tI, if_neg (by decide), n10, e10, cI2 10 (by decide) (by decide) (by decide) (by decide) (by decide), sI_ 10 (by omega)]
  · intro k h1 h2; rw [mJ_tI, nJ k h2]
  · rw [mJ_tI, nJ 0 (by decide), cJ2 0 (by decide), gJ 0 (by decide)]; exact (sJ_ 0 (by omega)).symm
  · rw [mJ_tI, n5]; exact e5.1.symm
  · rw [mJ_tI, n5]; exact e5.2
  · rw [mF_tI, nF, cF2, gF]; exact sF0.symm
  · rw [mF_tI, nF, cF2, gF]; exact sF1.symm
  · rw [mq_tI, nq]
/-- what one instruction gives: 0 it went through, else what it throws -/
def StepR (d : Nat) (σ : CS) (τ : MS) : Prop :=
  (((doF σ).1 = 0 ∧ mI (mdF τ) 2 = mI τ 2 + 1 ∧ mI (mdF τ) 11 = mI τ 11) ∨ (((doF σ).1 = 3 ∨ (doF σ).1 = 4) ∧ mI (mdF τ) 2 = mI τ 2 ∧ mI (mdF τ) 11 = nI (doF σ).1 ∧ mI (mdF τ) 1 = 1)) ∧ Rel (d + 1) (doF σ).2 (mdF τ)
theorem doQ_eq {d : Nat} {σ : CS} {τ : MS} (r : Rel d σ τ) : doQ σ = bq (mq τ (ix (mI τ 0))) := by
  obtain ⟨⟨hI, _⟩, _, hC, w⟩ := r
  unfold doQ
  rw [cmF_Q, hI 0 (by omega)]
  exact hC.1 _ (vp_lt (by rw [← hI 0 (by omega)]; exact w.1))
/-- the class's work at an instruction that goes through -/
theorem doG_ok {d : Nat} {σ : CS} {T : MS} {q : Nat → Int32} {gm : Bool} (p : Pre1 d σ T q gm) (tr0 : trF T q = 0) (hdt : doT σ (bq q) = 0) : Post1 d σ T (doG σ (bq q) gm) (mdN (ma2 T q).2 (cI σ 0) q gm (ma2 T q).1) := by
  unfold doT at hdt
  unfold doG
  by_cases hm : inF (q 0) 6 9 = true
  · rw [if_pos (show memQ (bq q) = true from hm)] at hdt ⊢
    by_cases z : badA (adF σ (bq q)) = true
    · rw [if_pos z] at hdt; cases hdt
    · rw [if_neg z]; exact s_mem p hm tr0
  · rw [if_neg (show ¬ memQ (bq q) = true from hm)] at hdt ⊢
    rw [ma_no hm]
    have hq := p.2.1
    rw [show bq q 0 = q 0 from rfl, show tgtQ (bq q) = (if q 0 < 17 then false else true) from rfl] at *
    have cmp : (q 0 < 17) → ¬ q 0 = 0 → cmpQ (q 0) → Post1 d σ T (if (if q 0 < 17 then false else true) = true then (if q 0 = 19 then dnF σ (bq q) gm false false (jdF σ (bq q)) else dnF (gwF σ (cI σ 0) (jdF σ (bq q))) (bq q) gm false (gwW σ (cI σ 0) (jdF σ (bq q))) (jdF σ (bq q))) else if q 0 = 0 then dnF (sI σ 1 1) (bq q) gm false false false else if cpT σ (bq q) = true then sI σ 1 1 else dnF (cpF σ (bq q)) (bq q) gm false false false) (mdN (false, T).2 (cI σ 0) q gm (false, T).1) := by
      intro h1 h2 h3
      rw [if_pos h1, if_neg (by decide), if_neg h2] at hdt ⊢
      by_cases z : cpT σ (bq q) = true
      · rw [if_pos z] at hdt; cases hdt
      · rw [if_neg z]; exact s_cmp p h3
    rcases ops hq.1 with e | e | e | e | e | e | e | e | e | e | e | e | e | e
    · rw [if_pos (show q 0 < 17 by rw [e]; decide), if_neg (by decide), if_pos e]; exact s_halt p e
    · exact cmp (by rw [e]; decide) (by rw [e]; decide) (Or.inl e)
    · exact cmp (by rw [e]; decide) (by rw [e]; decide) (Or.inr (Or.inl e))
    · exact cmp (by rw [e]; decide) (by rw [e]; decide) (Or.inr (Or.inr (Or.inl e)))
    · exact cmp (by rw [e]; decide) (by rw [e]; decide) (Or.inr (Or.inr (Or.inr (Or.inl e))))
    · exact cmp (by rw [e]; decide) (by rw [e]; decide) (Or.inr (Or.inr (Or.inr (Or.inr (Or.inl e)))))
    · exact absurd e hm
    · exact cmp (by rcases in1013 e with z | z | z | z <;> rw [z] <;> decide) (by rcases in1013 e with z | z | z | z <;> rw [z] <;> decide) (Or.inr (Or.inr (Or.inr (Or.inr (Or.inr (Or.inl e))))))
    · exact cmp (by rw [e]; decide) (by rw [e]; decide) (Or.inr (Or.inr (Or.inr (Or.inr (Or.inr (Or.inr (Or.inl e)))))))
    · exact cmp (by rw [e]; decide) (by rw [e]; decide) (Or.inr (Or.inr (Or.inr (Or.inr (Or.inr (Or.inr (Or.inr (Or.inl e))))))))
    · exact cmp (by rw [e]; decide) (by rw [e]; decide) (Or.inr (Or.inr (Or.inr (Or.inr (Or.inr (Or.inr (Or.inr (Or.inr e))))))))
    · rw [if_neg (show ¬ q 0 < 17 by rw [e]; decide), if_pos rfl, if_neg (show ¬ q 0 = 19 by rw [e]; decide)]; exact s_cond p (Or.inl e)
    · rw [if_neg (show ¬ q 0 < 17 by rw [e]; decide), if_pos rfl, if_neg (show ¬ q 0 = 19 by rw [e]; decide)]; exact s_cond p (Or.inr e)
    · rw [if_neg (show ¬ q 0 < 17 by rw [e]; decide), if_pos rfl, if_pos e]; exact s_jump p e
theorem doG_no {σ : CS} {q : Nat → Int32} {gm : Bool} (hne : ¬ doT σ q = 0) : doG σ q gm = sI σ 1 1 ∧ (doT σ q = 3 ∨ doT σ q = 4) := by
  unfold doT at hne ⊢
  unfold doG
  by_cases a1 : memQ q = true
  · rw [if_pos a1] at hne ⊢
    rw [if_pos a1]
    by_cases a2 : badA (adF σ q) = true
    · rw [if_pos a2, if_pos a2]; exact ⟨rfl, Or.inl rfl⟩
    · rw [if_neg a2] at hne; exact absurd rfl hne
  · rw [if_neg a1] at hne ⊢
    rw [if_neg a1]
    by_cases a2 : tgtQ q = true
    · rw [if_pos a2] at hne; exact absurd rfl hne
    · rw [if_neg a2] at hne ⊢
      rw [if_neg a2]
      by_cases a3 : q 0 = 0
      · rw [if_pos a3] at hne; exact absurd rfl hne
      · rw [if_neg a3] at hne ⊢
        rw [if_neg a3]
        by_cases a4 : cpT σ q = true
        · rw [if_pos a4, if_pos a4]; exact ⟨rfl, Or.inr rfl⟩
        · rw [if_neg a4] at hne; exact absurd rfl hne
theorem step {d : Nat} {σ : CS} {τ : MS} (hd : 15 * (d : Int) < 900000000) (r : Rel d σ τ) (hr : mI τ 1 = 0) : StepR d σ τ := by
  have hQ := doQ_eq r
  have hwf := doF_wf r.2.2.2
  obtain ⟨sh, hM, hC, w⟩ := r
  have hi : vp_in (mI τ 0) 24 := by rw [← sh.1 0 (by omega)]; exact w.1
  have hq : okM (mq τ (ix (mI τ 0))) := hM.1 _ (vp_lt hi)
  have e0 : cI σ 0 = mI τ 0 := sh.1 0 (by omega)
  obtain ⟨eg, s1⟩ := sh_mg sh (mI τ 0)
  have eF : doF σ = (doT (cmF σ (mI τ 0 / 4)).2 (bq (mq τ (ix (mI τ 0)))), doG (cmF σ (mI τ 0 / 4)).2 (bq (mq τ (ix (mI τ 0)))) (mgF τ (mI τ 0)).1) := by
    unfold doF
    rw [hQ, e0, eg]
  have gmiss : mI τ 3 = -1 → (mgF τ (mI τ 0)).1 = true := fun z => by
    obtain ⟨g0, g1⟩ := hM.2.2.2.2.1 hr z
    exact mg_miss hi g0 g1
  have eP := cmF_P σ (mI τ 0 / 4)
  have eQ := cmF_Q σ (mI τ 0 / 4)
  have I1 := mg_I τ (mI τ 0)
  have J1 := mg_J τ (mI τ 0)
  have q1 : mq (mgF τ (mI τ 0)).2 = mq τ := mg_q _ _
  have md : mdF τ = if 0 < trF (mgF τ (mI τ 0)).2 (mq τ (ix (mI τ 0))) then tI (tI (ma2 (mgF τ (mI τ 0)).2 (mq τ (ix (mI τ 0)))).2 11 (trF (mgF τ (mI τ 0)).2 (mq τ (ix (mI τ 0))))) 1 1 else mdN (ma2 (mgF τ (mI τ 0)).2 (mq τ (ix (mI τ 0)))).2 (mI τ 0) (mq τ (ix (mI τ 0))) (mgF τ (mI τ 0)).1 (ma2 (mgF τ (mI τ 0)).2 (mq τ (ix (mI τ 0)))).1 := rfl
  unfold StepR
  rw [eF] at hwf ⊢
  rw [md]
  clear eF md hQ eg
  generalize mq τ (ix (mI τ 0)) = q at *
  generalize (mgF τ (mI τ 0)).1 = gm at *
  generalize (mgF τ (mI τ 0)).2 = T1 at *
  generalize (cmF σ (mI τ 0 / 4)).2 = σ1 at *
  have etr := tr_do hq (s1.2.1 0 (by omega)) s1.2.2.2.2
  have hT1 : Tm d T1 := hM.2.2.2.1.dep (I1 3 (by decide)) (I1 4 (by decide)) (I1 5 (by decide)) (J1 1 (by decide))
  have hL1 : LnC d (mI T1 9) (mJ T1 3) (mJ T1 4) := by rw [I1 9 (by decide), J1 3 (by decide), J1 4 (by decide)]; exact hM.2.2.2.2.2
  have h10 : mJ T1 1 0 = 0 := by rw [J1 1 (by decide)]; exact hM.2.2.1
  have h5b : ∀ k, k < 8 → 0 ≤ (mJ T1 5 k).toInt ∧ (mJ T1 5 k).toInt ≤ 3 := by rw [J1 5 (by decide)]; exact hM.2.1
  have g1 : mI T1 3 = -1 → gm = true := by rw [I1 3 (by decide)]; exact gmiss
  have st1 : cI σ1 1 = 0 := by rw [s1.1 1 (by omega), I1 1 (by decide)]; exact hr
  have ei : cI σ1 0 = mI τ 0 := by rw [s1.1 0 (by omega), I1 0 (by decide)]
  have hok : ∀ i, i < 24 → okM (mq T1 i) := by rw [q1]; exact hM.1
  have p : Pre1 d σ1 T1 q gm := ⟨hd, hq, s1, hT1, h10, h5b, g1, hL1, hok, st1, by rw [ei]; exact hi⟩
  by_cases htr : 0 < trF T1 q
  · rw [if_pos htr]
    have ma : ma2 T1 q = (false, T1) := by
      unfold ma2
      split
      · rw [if_neg (fun z => by rw [z] at htr; exact absurd htr (by decide))]
      · rfl
    rw [ma]
    have hdo := doG_no (gm := gm) (fun z => by rw [etr, z] at htr; exact absurd htr (by decide) : ¬ doT σ1 (bq q) = 0)
    rw [hdo.1] at hwf ⊢
    refine ⟨Or.inr ⟨hdo.2, I1 2 (by decide), etr, rfl⟩, ⟨⟨fun k hk => ?_, s1.2.1, s1.2.2.1, s1.2.2.2.1, s1.2.2.2.2⟩, ⟨hok, h5b, h10, hT1.more.dep rfl rfl rfl rfl, fun z => absurd (show (1 : Int32) = 0 from z) (by decide), hL1.more (Nat.le_succ d)⟩, ⟨fun i hi => ?_, ?_⟩, hwf⟩⟩
    · by_cases k1 : k = 1
      · subst k1; rfl
      · show cI (sI σ1 1 1) k = mI (tI (tI T1 11 (trF T1 q)) 1 1) k
        rw [cI_sI, if_neg k1, mI_tI, if_neg k1, mI_tI, if_neg (by omega)]; exact s1.1 k hk
    · show cQ σ1 (cP σ1 0 i) = bq (mq T1 i)
      rw [eP, eQ, q1]; exact hC.1 i hi
    · show ∀ i j, i < 24 → j < 24 → cP σ1 0 i = cP σ1 0 j → i = j
      rw [eP]; exact hC.2
  · rw [if_neg htr]
    have tr0 := tr_0 htr
    have hdt : doT σ1 (bq q) = 0 := by
      have hx : doT σ1 (bq q) = 0 ∨ doT σ1 (bq q) = 3 ∨ doT σ1 (bq q) = 4 := by
        unfold doT
        repeat' split
        all_goals simp
      rw [tr0] at etr
      rcases hx with z | z | z
      · exact z
      · rw [z] at etr; exact absurd etr (by decide)
      · rw [z] at etr; exact absurd etr (by decide)
    obtain ⟨a1, a2, a3, a4, a5, a6, a7⟩ := doG_ok p tr0 hdt
    rw [ei] at a1 a2 a3 a4 a5
    refine ⟨Or.inl ⟨hdt, by rw [a3, I1 2 (by decide)], by rw [a4, I1 11 (by decide)]⟩, a1, a2, ⟨fun i hi => ?_, ?_⟩, hwf⟩
    · show cQ (doG σ1 (bq q) gm) (cP (doG σ1 (bq q) gm) 0 i) = _
      rw [a6, a7, eP, eQ, a5, q1]; exact hC.1 i hi
    · show ∀ i j, i < 24 → j < 24 → cP (doG σ1 (bq q) gm) 0 i = cP (doG σ1 (bq q) gm) 0 j → i = j
      rw [a6, eP]; exact hC.2
end Sim7
