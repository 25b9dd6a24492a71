/-! THE CLASS'S REGISTERS AGAINST THE REFERENCE'S -/
section Regs
abbrev bq (q : Nat → Int32) : Nat → Int32 := becQ (q 0) (q 1) (q 2) (q 3) (q 4)
def cv (x : Int32) : Int32 := if x = 0 then -1 else x
theorem ix_nI {j : Nat} (h : j < 2 ^ 31) : ix (nI j) = j := nI_clamp h
theorem reg_w {q : Nat → Int32} (h : okM q) : regF (wrdT (ix (q 0))) (q 1) = cv (taQ q) := by
  obtain ⟨h0, h1, h2, h3⟩ := h
  obtain ⟨o, ho, e0⟩ := vp_in_of h0 (by decide)
  obtain ⟨d, hd, e1⟩ := vp_in_of h1 (by decide)
  have k : ∀ o, o < 20 → ∀ d, d < 8 → regF (wrdT (ix (nI o))) (nI d) = cv (taQ (becQ (nI o) (nI d) 0 0 0)) := by decide +kernel
  have := k o ho d hd
  unfold taQ at this ⊢
  rw [e0, e1]
  exact this
theorem reg_a {q : Nat → Int32} (h : okM q) : regF (rdaT (ix (q 0))) (q 2) = cv (fiQ q) := by
  obtain ⟨h0, h1, h2, h3⟩ := h
  obtain ⟨o, ho, e0⟩ := vp_in_of h0 (by decide)
  obtain ⟨d, hd, e1⟩ := vp_in_of h2 (by decide)
  have k : ∀ o, o < 20 → ∀ d, d < 8 → regF (rdaT (ix (nI o))) (nI d) = cv (fiQ (becQ (nI o) 0 (nI d) 0 0)) := by decide +kernel
  have := k o ho d hd
  unfold fiQ at this ⊢
  rw [e0, e1]
  exact this
theorem reg_b {q : Nat → Int32} (h : okM q) : regF (rdbT (ix (q 0))) (q 3) = cv (seQ q) := by
  obtain ⟨h0, h1, h2, h3⟩ := h
  obtain ⟨o, ho, e0⟩ := vp_in_of h0 (by decide)
  obtain ⟨d, hd, e1⟩ := vp_in_of h3 (by decide)
  have k : ∀ o, o < 20 → ∀ d, d < 8 → regF (rdbT (ix (nI o))) (nI d) = cv (seQ (becQ (nI o) 0 0 (nI d) 0)) := by decide +kernel
  have := k o ho d hd
  unfold seQ at this ⊢
  rw [e0, e1]
  exact this
theorem lat_q {q : Nat → Int32} (h : okM q) (ht : ¬ taQ q = 0) : latT (ix (q 0)) = laQ q := by
  obtain ⟨h0, h1, h2, h3⟩ := h
  obtain ⟨o, ho, e0⟩ := vp_in_of h0 (by decide)
  obtain ⟨d, hd, e1⟩ := vp_in_of h1 (by decide)
  have k : ∀ o, o < 20 → ∀ d, d < 8 → ¬ taQ (becQ (nI o) (nI d) 0 0 0) = 0 → latT (ix (nI o)) = laQ (becQ (nI o) (nI d) 0 0 0) := by decide +kernel
  have ht' : ¬ taQ (becQ (nI o) (nI d) 0 0 0) = 0 := by
    unfold taQ at ht ⊢
    rw [e0, e1] at ht
    exact ht
  have := k o ho d hd ht'
  unfold laQ at this ⊢
  rw [e0]
  exact this
theorem le0_in {x : Int32} {n : Nat} (h : vp_in x n) : x ≤ 0 ↔ x = 0 := by
  rw [vp_in_iff] at h
  rw [Int32.le_iff_toInt_le, Int32.toInt_zero, ← Int32.toInt_inj, Int32.toInt_zero]
  omega
theorem cv_m1 {x : Int32} {n : Nat} (h : vp_in x n) : cv x = -1 ↔ x = 0 := by
  unfold cv
  constructor
  · intro k
    by_cases hx : x = 0
    · exact hx
    · rw [if_neg hx] at k
      rw [vp_in_iff, k] at h
      exact absurd h.1 (by decide)
  · intro k; rw [if_pos k]
theorem cv_inj {x y : Int32} {n k : Nat} (h : vp_in x n) (h2 : vp_in y k) (hy : ¬ y = 0) : cv x = cv y ↔ x = y := by
  constructor
  · intro e
    by_cases hx : x = 0
    · have : cv y = -1 := by rw [← e]; exact (cv_m1 h).mpr hx
      exact absurd ((cv_m1 h2).mp this) hy
    · unfold cv at e
      rw [if_neg hx, if_neg hy] at e
      exact e
  · intro e; rw [e]
theorem bq5 {q : Nat → Int32} (h : okM q) : bq q 5 = cv (taQ q) := reg_w h
theorem bq6 {q : Nat → Int32} (h : okM q) : bq q 6 = cv (fiQ q) := reg_a h
theorem bq7 {q : Nat → Int32} (h : okM q) : bq q 7 = cv (seQ q) := reg_b h
theorem rw_eq {q p : Nat → Int32} (h : okM q) (k : okM p) : rwQ (bq q) (bq p) = rdM q (taQ p) := by
  unfold rwQ rdM
  rw [bq5 k, bq6 h, bq7 h]
  by_cases ht : taQ p = 0
  · rw [if_pos ((cv_m1 (ta_in k)).mpr ht), if_pos ((le0_in (ta_in k)).mpr ht)]
  · rw [if_neg (fun z => ht ((cv_m1 (ta_in k)).mp z)), if_neg (fun z => ht ((le0_in (ta_in k)).mp z))]
    have e1 := cv_inj (fi_in h) (ta_in k) ht
    have e2 := cv_inj (se_in h) (ta_in k) ht
    by_cases a1 : fiQ q = taQ p
    · rw [if_pos (e1.mpr a1), if_pos a1]
    · rw [if_neg (fun z => a1 (e1.mp z)), if_neg a1]
      by_cases a2 : seQ q = taQ p
      · rw [if_pos (e2.mpr a2), if_pos a2]
      · rw [if_neg (fun z => a2 (e2.mp z)), if_neg a2]
theorem bw_eq {q e : Nat → Int32} (h : okM q) (k : okM e) : bwQ (bq q) (bq e) = (if taQ e ≤ 0 then false else decide (taQ e = taQ q)) := by
  unfold bwQ
  rw [bq5 h, bq5 k]
  by_cases ht : taQ q = 0
  · rw [if_pos ((cv_m1 (ta_in h)).mpr ht)]
    by_cases h2 : taQ e = 0
    · rw [if_pos ((le0_in (ta_in k)).mpr h2)]
    · rw [if_neg (fun z => h2 ((le0_in (ta_in k)).mp z)), ht, decide_eq_false h2]
  · rw [if_neg (fun z => ht ((cv_m1 (ta_in h)).mp z))]
    have e1 := cv_inj (ta_in k) (ta_in h) ht
    by_cases a1 : taQ e = taQ q
    · rw [if_pos (by rw [a1]), if_neg (fun z => ht (by rw [← a1]; exact (le0_in (ta_in k)).mp z)), decide_eq_true a1]
    · rw [if_neg (fun z => a1 (e1.mp z.symm)), decide_eq_false a1]
      split <;> rfl
theorem trn_eq (q : Nat → Int32) : trnQ (bq q) = inF (q 0) 6 13 := rfl
theorem msb_eq {q e : Nat → Int32} (h : okM q) (k : okM e) : msbQ (bq q) (bq e) = tdM e q := by
  unfold msbQ tdM
  rw [bw_eq h k, rw_eq h k, rw_eq k h, trn_eq, trn_eq]
  by_cases h1 : taQ e ≤ 0
  · rw [if_pos h1, if_pos h1]
    cases rdM q (taQ e) <;> cases rdM e (taQ q) <;> cases inF (q 0) 6 13 <;> cases inF (e 0) 6 13 <;> rfl
  · rw [if_neg h1, if_neg h1]
    by_cases h2 : taQ e = taQ q
    · rw [decide_eq_true h2, if_pos h2]
      cases rdM q (taQ e) <;> cases rdM e (taQ q) <;> cases inF (q 0) 6 13 <;> cases inF (e 0) 6 13 <;> rfl
    · rw [decide_eq_false h2, if_neg h2]
      cases rdM q (taQ e) <;> cases rdM e (taQ q) <;> cases inF (q 0) 6 13 <;> cases inF (e 0) 6 13 <;> rfl
theorem rd_ta {q p : Nat → Int32} (k : okM p) (h : rdM q (taQ p) = true) : ¬ taQ p = 0 := by
  intro z
  unfold rdM at h
  rw [if_pos ((le0_in (ta_in k)).mpr z)] at h
  cases h
/-- the two waits of a height -/
def LcQ (Q : Nat → Nat → Int32) (i k : Nat) : Int32 := if rwQ (Q k) (Q i) then latT (ix (Q i 0)) else 1
def LmQ (q : Nat → Nat → Int32) (i k : Nat) : Int32 := if rdM (q k) (taQ (q i)) then laQ (q i) else 1
theorem L_eq {q : Nat → Nat → Int32} {i k : Nat} (hi : okM (q i)) (hk : okM (q k)) : LcQ (fun j => bq (q j)) i k = LmQ q i k := by
  unfold LcQ LmQ
  rw [rw_eq hk hi]
  by_cases h : rdM (q k) (taQ (q i)) = true
  · rw [if_pos h, if_pos h]; exact lat_q hi (rd_ta hi h)
  · rw [if_neg h, if_neg h]
theorem rem_small {j : Nat} (h : j < 48) : (nI j - nI j / 24 * 24).toInt = j % 24 := by
  have : ∀ j, j < 48 → (nI j - nI j / 24 * 24).toInt = ((j % 24 : Nat) : Int) := by decide
  have := this j h
  omega
theorem flm_mdl (n : Int32) : mdl n = flm n 24 := by
  rw [← Int32.toInt_inj, flm_toInt]
  unfold mdl
  have h24 : (24 : Int32).toInt = 24 := by decide
  have hr := rem24 n
  have hb : -24 < (n - n / 24 * 24).toInt ∧ (n - n / 24 * 24).toInt < 24 := by split at hr <;> omega
  have hs : (n - n / 24 * 24 + 24).toInt = (n - n / 24 * 24).toInt + 24 := by rw [Int32.toInt_add, h24, Int.bmod_eq_of_le_mul_two (by omega) (by omega)]
  rw [rem24, hs, if_pos (by omega)]
  split at hr <;> omega
/-- within a block; the reference's and the class's words -/
def insM (q : Nat → Int32) : Bool := if q 0 ≤ 0 then false else if 17 ≤ q 0 then false else true
theorem ins_eq {q : Nat → Int32} (h : okM q) : (!endQ (bq q)) = insM q := by
  unfold endQ tgtQ insM
  show (!(if q 0 = 0 then true else if q 0 < 17 then false else true)) = _
  by_cases h0 : q 0 = 0
  · rw [if_pos h0, if_pos ((le0_in h.1).mpr h0)]; rfl
  · rw [if_neg h0, if_neg (fun z => h0 ((le0_in h.1).mp z))]
    by_cases h1 : q 0 < 17
    · rw [if_pos h1, if_neg (Int32.not_le.mpr h1)]; rfl
    · rw [if_neg h1, if_pos (Int32.not_lt.mp h1)]; rfl
end Regs
