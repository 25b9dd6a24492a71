/-! THE CLASS AGAINST THE REFERENCE, PURE: every call keeps the relation -/
section SimR
theorem Tm.le {d d' : Nat} {α : MS} (h : Tm d α) (hd : d ≤ d') : Tm d' α := by
  obtain ⟨h1, h2, h3, h4⟩ := h
  refine ⟨by omega, by omega, by omega, fun k hk => ?_⟩
  have := h4 k hk
  omega
theorem Rel.le {d d' : Nat} {σ : CS} {τ : MS} (h : Rel d σ τ) (hd : d ≤ d') : Rel d' σ τ :=
  ⟨h.1, ⟨h.2.1.1, h.2.1.2.1, h.2.1.2.2.1, h.2.1.2.2.2.1.le hd, h.2.1.2.2.2.2.1, h.2.1.2.2.2.2.2.more hd⟩, h.2.2⟩
/-- what is thrown is no part of it -/
theorem Rel.t11 {d : Nat} {σ : CS} {τ : MS} (h : Rel d σ τ) (v : Int32) : Rel d σ (tI τ 11 v) := by
  obtain ⟨⟨hI, hJ, hH, h0, h1⟩, hM, hC, w⟩ := h
  refine ⟨⟨fun k hk => ?_, hJ, hH, h0, h1⟩, hM, hC, w⟩
  rw [mI_tI, if_neg (by omega)]; exact hI k hk
theorem ruM_stop {τ : MS} (h : ¬ mI τ 1 = 0) (b n : Int32) : ∀ f, ruM f τ b n = τ := by
  intro f
  cases f with
  | zero => rfl
  | succ f => unfold ruM; rw [if_neg h, ite_self]
theorem MWr_stop {τ : MS} (w : MWf τ) (h : ¬ mI τ 1 = 0) (b n : Int32) : ∀ f, MWr f τ b n := by
  intro f
  cases f with
  | zero => exact Or.inr h
  | succ f => exact ⟨w, fun _ z => absurd z h⟩
theorem run_sim {N : Nat} (hN : N ≤ 300) : ∀ f j d σ τ b, j + f = N → 15 * ((d + f : Nat) : Int) < 900000000 → Rel d σ τ → mI τ 2 - b = nI j → mI τ 11 = 0 →
    MWr f τ b (nI N) ∧ Rel (d + f) (ruF f σ (nI j) (nI N)).2.2 (ruM f τ b (nI N)) ∧
    (((ruF f σ (nI j) (nI N)).1 = 0 ∧ mI (ruM f τ b (nI N)) 11 = 0 ∧ mI (ruM f τ b (nI N)) 2 - b = (ruF f σ (nI j) (nI N)).2.1) ∨ (((ruF f σ (nI j) (nI N)).1 = 3 ∨ (ruF f σ (nI j) (nI N)).1 = 4) ∧ mI (ruM f τ b (nI N)) 11 = nI (ruF f σ (nI j) (nI N)).1)) := by
  intro f
  induction f with
  | zero =>
    intro j d σ τ b hj hd r hb h11
    have : j = N := by omega
    subst this
    exact ⟨Or.inl (by rw [hb]; exact nI_le (Nat.le_refl _) (by omega)), r, Or.inl ⟨rfl, h11, hb⟩⟩
  | succ f ih =>
    intro j d σ τ b hj hd r hb h11
    have hlt : ¬ nI N ≤ nI j := nI_ge (by omega) (by omega)
    have hlt2 : ¬ nI N ≤ mI τ 2 - b := by rw [hb]; exact hlt
    by_cases hs : mI τ 1 = 0
    · have hs' : cI σ 1 = 0 := by rw [r.1.1 1 (by omega)]; exact hs
      obtain ⟨c, r1⟩ := step (d := d) (by omega) r hs
      have eM : ruM (f + 1) τ b (nI N) = ruM f (mdF τ) b (nI N) := by
        show (if nI N ≤ mI τ 2 - b then τ else if mI τ 1 = 0 then ruM f (mdF τ) b (nI N) else τ) = _
        rw [if_neg hlt2, if_pos hs]
      rcases c with ⟨c1, c2, c3⟩ | ⟨c1, c2, c3, c4⟩
      · have eF : ruF (f + 1) σ (nI j) (nI N) = ruF f (doF σ).2 (nI (j + 1)) (nI N) := by
          show (if nI N ≤ nI j then (0, nI j, σ) else if cI σ 1 = 0 then (if (doF σ).1 = 0 then ruF f (doF σ).2 (nI j + 1) (nI N) else ((doF σ).1, nI j, (doF σ).2)) else (0, nI j, σ)) = _
          rw [if_neg hlt, if_pos hs', if_pos c1, nI_1]
        have hb' : mI (mdF τ) 2 - b = nI (j + 1) := by
          rw [c2, ← nI_1, ← hb, Int32.sub_eq_add_neg, Int32.sub_eq_add_neg, Int32.add_assoc, Int32.add_comm 1, ← Int32.add_assoc]
        obtain ⟨i1, i2, i3⟩ := ih (j + 1) (d + 1) (doF σ).2 (mdF τ) b (by omega) (by omega) r1 hb' (by rw [c3]; exact h11)
        rw [eM, eF]
        refine ⟨⟨r.mwf, fun _ _ => i1⟩, ?_, i3⟩
        rw [show d + (f + 1) = d + 1 + f by omega]
        exact i2
      · have hne : ¬ (doF σ).1 = 0 := by rcases c1 with z | z <;> rw [z] <;> decide
        have eF : ruF (f + 1) σ (nI j) (nI N) = ((doF σ).1, nI j, (doF σ).2) := by
          show (if nI N ≤ nI j then (0, nI j, σ) else if cI σ 1 = 0 then (if (doF σ).1 = 0 then ruF f (doF σ).2 (nI j + 1) (nI N) else ((doF σ).1, nI j, (doF σ).2)) else (0, nI j, σ)) = _
          rw [if_neg hlt, if_pos hs', if_neg hne]
        have h1n : ¬ mI (mdF τ) 1 = 0 := by rw [c4]; decide
        rw [eM, eF, ruM_stop h1n]
        exact ⟨⟨r.mwf, fun _ _ => MWr_stop r1.mwf h1n _ _ f⟩, r1.le (by omega), Or.inr ⟨c1, c3⟩⟩
    · have hs' : ¬ cI σ 1 = 0 := by rw [r.1.1 1 (by omega)]; exact hs
      have eF : ruF (f + 1) σ (nI j) (nI N) = (0, nI j, σ) := by
        show (if nI N ≤ nI j then (0, nI j, σ) else if cI σ 1 = 0 then (if (doF σ).1 = 0 then ruF f (doF σ).2 (nI j + 1) (nI N) else ((doF σ).1, nI j, (doF σ).2)) else (0, nI j, σ)) = _
        rw [if_neg hlt, if_neg hs']
      rw [ruM_stop hs, eF]
      exact ⟨⟨r.mwf, fun _ z => absurd z hs⟩, r.le (by omega), Or.inl ⟨rfl, h11, hb⟩⟩
theorem fin0 : fp_fin FP.dconst0 := ⟨_, _, _, (by decide : FP.Core.val64 FP.dconst0 = .fin false 0 (-1074))⟩
theorem rs_q (τ : MS) : mq (rsM τ) = mq τ := by
  unfold rsM r3F r2F
  simp only [mq_tI, mq_tF, mq_tJ _ 0 _ (by decide : 0 < 6), mq_tJ _ 1 _ (by decide : 1 < 6), mq_tJ _ 2 _ (by decide : 2 < 6), mq_tJ _ 3 _ (by decide : 3 < 6), mq_tJ _ 4 _ (by decide : 4 < 6), mq_tJ _ 5 _ (by decide : 5 < 6)]
theorem fI_in (f : Nat → Int32) {n : Nat} (v : Int32) {k : Nat} (hk : k < n) : fI f n v k = v := by unfold fI; rw [if_pos hk]
/-- start -/
theorem rel_start {d : Nat} {σ : CS} {τ : MS} (r : Rel d σ τ) {i : Int32} (hi : vp_in i 24) : Rel d (stF σ i) (tI (tI (rsM (bdF τ true)) 0 i) 1 0) := by
  obtain ⟨⟨hI, hJ, hH, h0, h1⟩, hM, hC, w⟩ := r
  have R0 : mJ (tI (tI (rsM (bdF τ true)) 0 i) 1 0) 0 = fI (mJ τ 0) 8 0 := rfl
  have R1 : mJ (tI (tI (rsM (bdF τ true)) 0 i) 1 0) 1 = fI (mJ τ 1) 12 0 := rfl
  have R2 : mJ (tI (tI (rsM (bdF τ true)) 0 i) 1 0) 2 = fI (mJ τ 2) 2 (-1) := rfl
  have R3 : mJ (tI (tI (rsM (bdF τ true)) 0 i) 1 0) 3 = fI (mJ τ 3) 4 (-1) := rfl
  have R4 : mJ (tI (tI (rsM (bdF τ true)) 0 i) 1 0) 4 = fI (mJ τ 4) 4 0 := rfl
  have R5 : mJ (tI (tI (rsM (bdF τ true)) 0 i) 1 0) 5 = fI (mJ τ 5) 8 1 := rfl
  have RF : mF (tI (tI (rsM (bdF τ true)) 0 i) 1 0) 1 = fD (mF τ 1) 4 FP.dconst0 := rfl
  have S0 : cJ (stF σ i) 0 = fI (cJ σ 0) 8 0 := rfl
  have S1 : cJ (stF σ i) 1 = fI (cJ σ 1) 12 0 := rfl
  have S2 : cJ (stF σ i) 2 = fI (cJ σ 2) 2 (-1) := rfl
  have S3 : cJ (stF σ i) 3 = fI (cJ σ 3) 4 (-1) := rfl
  have S4 : cJ (stF σ i) 4 = fI (cJ σ 4) 4 0 := rfl
  have S5 : cJ (stF σ i) 5 = fI (cJ σ 5) 8 1 := rfl
  have SF : cF (stF σ i) 1 = fD (cF σ 1) 4 FP.dconst0 := rfl
  have I3 : mI (tI (tI (rsM (bdF τ true)) 0 i) 1 0) 3 = -1 := rfl
  have I4 : mI (tI (tI (rsM (bdF τ true)) 0 i) 1 0) 4 = 0 := rfl
  have I5 : mI (tI (tI (rsM (bdF τ true)) 0 i) 1 0) 5 = 0 := rfl
  have I9 : mI (tI (tI (rsM (bdF τ true)) 0 i) 1 0) 9 = 0 := rfl
  have em1 : (-1 : Int32).toInt = -1 := by decide
  have hq : ∀ k, mq (tI (tI (rsM (bdF τ true)) 0 i) 1 0) k = mq τ k := fun k => congrFun (rs_q (bdF τ true)) k
  refine ⟨⟨fun k hk => ?_, fun k hk => ?_, hH, h0, ?_⟩, ⟨fun k hk => ?_, fun k hk => ?_, ?_, ⟨?_, ?_, ?_, fun k hk => ?_⟩, fun _ _ => ⟨?_, ?_⟩, ?_, fun p hp => ⟨?_, ?_, ?_, ?_⟩, ?_, ?_⟩, ⟨fun k hk => ?_, hC.2⟩, ?_⟩
  · have : k = 0 ∨ k = 1 ∨ k = 2 ∨ k = 3 ∨ k = 4 ∨ k = 5 ∨ k = 6 ∨ k = 7 ∨ k = 8 ∨ k = 9 ∨ k = 10 := by omega
    rcases this with rfl | rfl | rfl | rfl | rfl | rfl | rfl | rfl | rfl | rfl | rfl <;> rfl
  · have : k = 0 ∨ k = 1 ∨ k = 2 ∨ k = 3 ∨ k = 4 ∨ k = 5 := by omega
    rcases this with rfl | rfl | rfl | rfl | rfl | rfl
    · rw [S0, R0, hJ 0 (by omega)]
    · rw [S1, R1, hJ 1 (by omega)]
    · rw [S2, R2, hJ 2 (by omega)]
    · rw [S3, R3, hJ 3 (by omega)]
    · rw [S4, R4, hJ 4 (by omega)]
    · rw [S5, R5, hJ 5 (by omega)]
  · rw [SF, RF, h1]
  · rw [hq]; exact hM.1 k hk
  · rw [R5, fI_in _ _ hk]; decide
  · rw [R1, fI_in _ _ (by decide)]
  · rw [I3, em1]; omega
  · rw [I4, Int32.toInt_zero]; omega
  · rw [I5, Int32.toInt_zero]; omega
  · rw [R1, fI_in _ _ hk, Int32.toInt_zero]; omega
  · rw [R2, fI_in _ _ (by decide)]
  · rw [R2, fI_in _ _ (by decide)]
  · rw [I9, Int32.toInt_zero]; omega
  · intro _; rw [R4, fI_in _ _ hp]
  · intro z; rw [R3, fI_in _ _ hp] at z; exact absurd (by decide) z
  · rw [R4, fI_in _ _ hp, Int32.toInt_zero]; omega
  · rw [R4, fI_in _ _ hp, I9]; exact Int.le_refl _
  · intro z; rw [R3, fI_in _ _ (by decide)] at z; exact absurd (by decide) z
  · intro z; rw [R3, fI_in _ _ (by decide)] at z; exact absurd (by decide) z
  · show cQ σ (cP σ 0 k) = _
    rw [hq]; exact hC.1 k hk
  · refine ⟨hi, w.2.1, w.2.2.1, w.2.2.2.1, fun j hj => ?_⟩
    rw [SF]
    unfold fD
    rw [if_pos hj]
    exact fin0
theorem okQ_bq {q : Nat → Int32} (h : okM q) : okQ (bq q) := by
  have cvo : ∀ {x : Int32}, vp_in x 12 → cv x = -1 ∨ vp_in (cv x) 12 := fun {x} hx => by
    unfold cv
    by_cases z : x = 0
    · rw [if_pos z]; exact Or.inl rfl
    · rw [if_neg z]; exact Or.inr hx
  refine ⟨h.1, h.2.1, h.2.2.1, h.2.2.2, ?_, ?_, ?_⟩
  · rw [bq5 h]; exact cvo (ta_in h)
  · rw [bq6 h]; exact cvo (fi_in h)
  · rw [bq7 h]; exact cvo (se_in h)
theorem badR_inF (n g : Int32) : badR n g = !inF n 0 g := by
  unfold badR inF
  by_cases h : n < 0
  · rw [if_pos h, if_pos h]; rfl
  · rw [if_neg h, if_neg h]
    by_cases h2 : n ≤ g
    · rw [if_pos h2, if_neg (Int32.not_lt.mpr h2)]; rfl
    · rw [if_neg h2, if_pos (Int32.not_le.mp h2)]; rfl
theorem badC_ok (i o d a b : Int32) : badC i o d a b = !okC i o d a b := by
  unfold badC okC
  rw [badR_inF, badR_inF, badR_inF, badR_inF, badR_inF]
  cases inF i 0 23 <;> cases inF o 0 19 <;> cases inF d 0 7 <;> cases inF a 0 7 <;> rfl
theorem okC_t {i o d a b : Int32} (h : okC i o d a b = true) : vp_in i 24 ∧ vp_in o 20 ∧ vp_in d 8 ∧ vp_in a 8 ∧ vp_in b 8 := by
  unfold okC at h
  by_cases h1 : inF i 0 23 = true
  · rw [if_pos h1] at h
    by_cases h2 : inF o 0 19 = true
    · rw [if_pos h2] at h
      by_cases h3 : inF d 0 7 = true
      · rw [if_pos h3] at h
        by_cases h4 : inF a 0 7 = true
        · rw [if_pos h4] at h
          exact ⟨inF_in (by decide) h1, inF_in (by decide) h2, inF_in (by decide) h3, inF_in (by decide) h4, inF_in (by decide) h⟩
        · rw [if_neg h4] at h; cases h
      · rw [if_neg h3] at h; cases h
    · rw [if_neg h2] at h; cases h
  · rw [if_neg h1] at h; cases h
/-- code -/
theorem rel_code {d : Nat} {σ : CS} {τ : MS} (r : Rel d σ τ) {i o d' a b n : Int32} (h : okC i o d' a b = true) : Rel d (sQ σ (cP σ 0 (ix i)) (becQ o d' a b n)) (cdM τ i o d' a b n) := by
  obtain ⟨hi, ho, hd, ha, hb⟩ := okC_t h
  obtain ⟨⟨hI, hJ, hH, h0, h1⟩, hM, hC, w⟩ := r
  have hix : ix i < 24 := vp_lt hi
  have mqn : ∀ k j, j < 5 → mq (cdM τ i o d' a b n) k j = if k = ix i then becQ o d' a b n j else mq τ k j := by
    intro k j hj
    have : j = 0 ∨ j = 1 ∨ j = 2 ∨ j = 3 ∨ j = 4 := by omega
    rcases this with rfl | rfl | rfl | rfl | rfl <;> rfl
  have bqn : ∀ k, bq (mq (cdM τ i o d' a b n) k) = if k = ix i then becQ o d' a b n else bq (mq τ k) := by
    intro k
    unfold bq
    rw [mqn k 0 (by decide), mqn k 1 (by decide), mqn k 2 (by decide), mqn k 3 (by decide), mqn k 4 (by decide)]
    split <;> rfl
  have okn : ∀ k, k < 24 → okM (mq (cdM τ i o d' a b n) k) := by
    intro k hk
    unfold okM
    rw [mqn k 0 (by decide), mqn k 1 (by decide), mqn k 2 (by decide), mqn k 3 (by decide)]
    split
    · exact ⟨ho, hd, ha, hb⟩
    · exact hM.1 k hk
  refine ⟨⟨fun k hk => ?_, fun k hk => ?_, hH, h0, h1⟩, ⟨okn, hM.2⟩, ⟨fun k hk => ?_, hC.2⟩, ⟨w.1, w.2.1, fun k hk => ?_, w.2.2.2⟩⟩
  · show cI σ k = mI (bdF τ true) k
    unfold bdF
    rw [mI_tI, if_neg (by omega)]; exact hI k hk
  · have e : mJ (cdM τ i o d' a b n) k = mJ τ k := by
      unfold cdM
      simp only [mJ_tJ]
      rw [if_neg (by omega), if_neg (by omega), if_neg (by omega), if_neg (by omega), if_neg (by omega)]
      rfl
    rw [e]; exact hJ k hk
  · rw [bqn]
    show (va_up σ.2.2.2.2 (cP σ 0 (ix i)) (becQ o d' a b n)) (cP σ 0 k) = _
    unfold va_up
    by_cases e : k = ix i
    · rw [if_pos (by rw [e]), if_pos e]
    · rw [if_neg (fun z => e (hC.2 k (ix i) hk hix z)), if_neg e]; exact hC.1 k hk
  · show okQ ((va_up σ.2.2.2.2 (cP σ 0 (ix i)) (becQ o d' a b n)) k)
    unfold va_up
    split
    · exact okQ_bq (q := becQ o d' a b n) ⟨ho, hd, ha, hb⟩
    · exact w.2.2.1 k hk
theorem badV_fin {v : UInt64} (h : badV v = false) : fp_fin v := by
  unfold badV at h
  by_cases h1 : Op.cmpValue (FP.dcmp v 13920209183539462144) .l < 0
  · rw [if_pos h1] at h; cases h
  · rw [if_neg h1] at h
    by_cases h2 : 0 < Op.cmpValue (FP.dcmp v 4696837146684686336) .g
    · rw [if_pos h2] at h; cases h
    · have hn : FP.Core.val64 v ≠ .nan := by
        intro z
        apply h1
        have : FP.dcmp v 13920209183539462144 = none := by
          show FP.Core.order (FP.Core.val64 v) (FP.Core.val64 13920209183539462144) = none
          rw [z]; rfl
        rw [this]; decide
      refine fp_between hn (lo := 13920209183539462144) (hi := 4696837146684686336) ⟨_, _, _, (by decide : FP.Core.val64 13920209183539462144 = .fin true 8589934592000000 (-33))⟩ ⟨_, _, _, (by decide : FP.Core.val64 4696837146684686336 = .fin false 8589934592000000 (-33))⟩ (fun z => h2 (by rw [z]; decide)) (fun z => h1 (by rw [z]; decide))
/-- cell -/
theorem rel_cell {d : Nat} {σ : CS} {τ : MS} (r : Rel d σ τ) {i : Int32} {v : UInt64} (hv : badV v = false) : Rel d (sF σ 0 (vf_upd (cF σ 0) (ix i) v)) (tF (bdF τ true) 0 (vf_upd (mF τ 0) (ix i) v)) := by
  obtain ⟨⟨hI, hJ, hH, h0, h1⟩, hM, hC, w⟩ := r
  refine ⟨⟨fun k hk => ?_, hJ, hH, ?_, h1⟩, hM, hC, ⟨w.1, w.2.1, w.2.2.1, fun j hj => ?_, w.2.2.2.2⟩⟩
  · show cI σ k = mI (bdF τ true) k
    unfold bdF
    rw [mI_tI, if_neg (by omega)]; exact hI k hk
  · show vf_upd (cF σ 0) (ix i) v = vf_upd (mF τ 0) (ix i) v
    rw [h0]
  · show fp_fin (vf_upd (cF σ 0) (ix i) v j)
    unfold vf_upd
    split
    · exact badV_fin hv
    · exact w.2.2.2.1 j hj
/-- schedule -/
theorem sr_of {d : Nat} {σ : CS} {τ : MS} (r : Rel d σ τ) : SR (sP σ 1 (cpA (cP σ 0) (cP σ 1) 24)) (tI τ 11 0) := by
  obtain ⟨_, hM, hC, w⟩ := r
  refine ⟨fun k hk => ?_, hM.1⟩
  show cQ σ (cpA (cP σ 0) (cP σ 1) 24 k) = bq (mq τ k)
  unfold cpA
  rw [if_pos hk]; exact hC.1 k hk
theorem sr_ro {σ : CS} {τ : MS} (h : SR (sP σ 1 (cpA (cP σ 0) (cP σ 1) 24)) τ) : SR (roS σ) τ := h
theorem ro_ld (σ : CS) (k : Nat) : ldC (roS σ) k = !decide (l2A (sP σ 1 (cpA (cP σ 0) (cP σ 1) 24)) (l1A (sP σ 1 (cpA (cP σ 0) (cP σ 1) 24)) (cJ (sP σ 1 (cpA (cP σ 0) (cP σ 1) 24)) 6) 24) 24 k = 0) := rfl
theorem cc_I (σ : CS) (y : SY) : cI (ccS σ y) = cI σ := rfl
theorem cc_F (σ : CS) (y : SY) : cF (ccS σ y) = cF σ := rfl
theorem cc_Q (σ : CS) (y : SY) : cQ (ccS σ y) = cQ σ := rfl
theorem cc_7 (σ : CS) (y : SY) : cJ (ccS σ y) 7 = y.1 := rfl
theorem cc_J (σ : CS) (y : SY) {k : Nat} (hk : k ≤ 5) : cJ (ccS σ y) k = cJ σ k := by
  show (if k = 8 then _ else if k = 7 then _ else cJ σ k) = cJ σ k
  rw [if_neg (by omega), if_neg (by omega)]
theorem cc_P0 (σ : CS) (y : SY) {k : Nat} (hk : k < 24) : cP (ccS σ y) 0 k = cP σ 1 (y.2.2.1 k) := by
  show pOf (cP σ 1) y.2.2.1 (cP σ 0) k = _
  unfold pOf
  rw [if_pos hk]
theorem ro_I (σ : CS) : cI (roS σ) = cI σ := rfl
theorem ro_F (σ : CS) : cF (roS σ) = cF σ := rfl
theorem ro_Q (σ : CS) : cQ (roS σ) = cQ σ := rfl
theorem ro_J (σ : CS) {k : Nat} (hk : k ≠ 6) : cJ (roS σ) k = cJ σ k := by
  unfold roS
  rw [cJ_sJ, if_neg hk]
  rfl
theorem ro_P (σ : CS) {k : Nat} (hk : k < 24) : cP (roS σ) 1 k = cP σ 0 k := by
  rw [ro_cp σ k hk]
  unfold roS
  rw [j6_P]
  rfl
theorem rel_sched {d : Nat} {σ : CS} {τ u : MS} (r : Rel d σ τ) (hu : SchE (tI τ 11 0) (schX τ) u) : Rel d (ccS (roS σ) (scC σ)) u ∧ (scC σ).2.2.2 = (schX τ).2.2.2 := by
  have s1 := sr_of r
  obtain ⟨⟨rx, ry⟩, p1, p2, p3⟩ := sch_rel (sr_ro s1) r.1.2.2.1 (fun k hk => (ro_ld σ k).trans (s1.ld hk))
  obtain ⟨⟨hI, hJ, hH, h0, h1⟩, hM, hC, w⟩ := r
  obtain ⟨u1, u2, u3, u4, u5⟩ := hu
  have uI : ∀ k, k ≤ 10 → mI u k = mI τ k := fun k hk => by rw [u1, mI_tI, if_neg (by omega)]
  have uJ : ∀ k, k ≤ 5 → mJ u k = mJ τ k := fun k hk => u3 k hk
  have eod : (scC σ).2.2.1 = (schX τ).2.2.1 := by rw [ry]
  generalize hy : scC σ = y at *
  generalize hx : schX τ = x at *
  have hod : ∀ k, k < 24 → y.2.2.1 k < 24 := fun k hk => by rw [eod]; exact p2 k hk
  have hP : ∀ k, k < 24 → cP (ccS (roS σ) y) 0 k = cP σ 0 (y.2.2.1 k) := fun k hk => by rw [cc_P0 _ _ hk, ro_P σ (hod k hk)]
  have mqu : ∀ k, k < 24 → ∀ j, j < 5 → mq u k j = mq τ (y.2.2.1 k) j := fun k hk j hj => by rw [u5 k hk j hj, eod]; rfl
  have okn : ∀ k, k < 24 → okM (mq u k) := by
    intro k hk
    unfold okM
    rw [mqu k hk 0 (by decide), mqu k hk 1 (by decide), mqu k hk 2 (by decide), mqu k hk 3 (by decide)]
    exact hM.1 _ (hod k hk)
  refine ⟨⟨⟨fun k hk => ?_, fun k hk => ?_, ?_, ?_, ?_⟩, ⟨okn, ?_, ?_, ?_, ?_, ?_⟩, ⟨fun k hk => ?_, fun k j hk hj e => ?_⟩, ⟨?_, fun k hk => ?_, ?_, ?_, ?_⟩⟩, by rw [ry]⟩
  · rw [cc_I, ro_I, uI k hk]; exact hI k hk
  · rw [cc_J _ _ hk, ro_J σ (by omega), uJ k hk]; exact hJ k hk
  · rw [cc_7, u4]; exact rx
  · rw [cc_F, ro_F, u2]; exact h0
  · rw [cc_F, ro_F, u2]; exact h1
  · rw [uJ 5 (by omega)]; exact hM.2.1
  · rw [uJ 1 (by omega)]; exact hM.2.2.1
  · exact hM.2.2.2.1.dep (uI 3 (by omega)) (uI 4 (by omega)) (uI 5 (by omega)) (uJ 1 (by omega))
  · rw [uI 1 (by omega), uI 3 (by omega), uJ 2 (by omega)]; exact hM.2.2.2.2.1
  · rw [uI 9 (by omega), uJ 3 (by omega), uJ 4 (by omega)]; exact hM.2.2.2.2.2
  · rw [cc_Q, ro_Q, hP k hk, hC.1 _ (hod k hk)]
    unfold bq
    rw [mqu k hk 0 (by decide), mqu k hk 1 (by decide), mqu k hk 2 (by decide), mqu k hk 3 (by decide), mqu k hk 4 (by decide)]
  · rw [hP k hk, hP j hj] at e
    have := hC.2 _ _ (hod k hk) (hod j hj) e
    rw [eod] at this
    exact p3 k j hk hj this
  · rw [cc_I, ro_I]; exact w.1
  · rw [hP k hk]; exact w.2.1 _ (hod k hk)
  · rw [cc_Q, ro_Q]; exact w.2.2.1
  · rw [cc_F, ro_F]; exact w.2.2.2.1
  · rw [cc_F, ro_F]; exact w.2.2.2.2
end SimR
