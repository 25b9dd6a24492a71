/-! THE CLASS, PURE: the state stays in range -/
section Wf
theorem cmF_P (σ : CS) (g : Int32) : cP (cmF σ g).2 = cP σ := by
  unfold cmF
  repeat' split
  all_goals rfl
theorem dmF_I0 (σ : CS) (g : Int32) : cI (dmF σ g).2 0 = cI σ 0 := by
  unfold dmF
  repeat' split
  all_goals rfl
theorem dmF_P (σ : CS) (g : Int32) : cP (dmF σ g).2 = cP σ := by
  unfold dmF
  repeat' split
  all_goals rfl
theorem dmF_F (σ : CS) (g : Int32) : cF (dmF σ g).2 = cF σ := by
  unfold dmF
  repeat' split
  all_goals rfl
theorem pwF_I0 (σ : CS) (r v : Int32) : cI (pwF σ r v) 0 = cI σ 0 := by
  unfold pwF
  repeat' split
  all_goals rfl
theorem pwF_P (σ : CS) (r v : Int32) : cP (pwF σ r v) = cP σ := by
  unfold pwF
  repeat' split
  all_goals rfl
theorem pwF_F (σ : CS) (r v : Int32) : cF (pwF σ r v) = cF σ := by
  unfold pwF
  repeat' split
  all_goals rfl
theorem gwF_I0 (σ : CS) (x : Int32) (j : Bool) : cI (gwF σ x j) 0 = cI σ 0 := by
  unfold gwF
  cases j <;> simp <;> split <;> rfl
theorem gwF_P (σ : CS) (x : Int32) (j : Bool) : cP (gwF σ x j) = cP σ := by
  unfold gwF
  cases j <;> simp <;> split <;> rfl
theorem gwF_F (σ : CS) (x : Int32) (j : Bool) : cF (gwF σ x j) = cF σ := by
  unfold gwF
  cases j <;> simp <;> split <;> rfl
theorem beF_I0 (σ : CS) (q : Nat → Int32) (a b c : Bool) : cI (beF σ q a b c) 0 = cI σ 0 := by
  unfold beF
  dsimp only
  split <;> split <;> split <;> rfl
theorem beF_P (σ : CS) (q : Nat → Int32) (a b c : Bool) : cP (beF σ q a b c) = cP σ := by
  unfold beF
  dsimp only
  split <;> split <;> split <;> rfl
theorem beF_F (σ : CS) (q : Nat → Int32) (a b c : Bool) : cF (beF σ q a b c) = cF σ := by
  unfold beF
  dsimp only
  split <;> split <;> split <;> rfl
theorem mvF_I0 (σ : CS) (q : Nat → Int32) (a : Int32) : cI (mvF σ q a) 0 = cI σ 0 := by
  unfold mvF
  split
  · exact pwF_I0 _ _ _
  · split
    · rfl
    · split <;> rfl
theorem mvF_P (σ : CS) (q : Nat → Int32) (a : Int32) : cP (mvF σ q a) = cP σ := by
  unfold mvF
  split
  · exact pwF_P _ _ _
  · split
    · rfl
    · split <;> rfl
theorem cpF_I0 (σ : CS) (q : Nat → Int32) : cI (cpF σ q) 0 = cI σ 0 := by
  unfold cpF
  split
  · split
    · exact pwF_I0 _ _ _
    · split
      · rfl
      · split
        · exact pwF_I0 _ _ _
        · rfl
  · exact pwF_I0 _ _ _
theorem cpF_P (σ : CS) (q : Nat → Int32) : cP (cpF σ q) = cP σ := by
  unfold cpF
  split
  · split
    · exact pwF_P _ _ _
    · split
      · rfl
      · split
        · exact pwF_P _ _ _
        · rfl
  · exact pwF_P _ _ _
theorem i2d_fin (x : Int32) : fp_fin (FP.i2d x) := by
  have h : FP.Core.Whole x.toInt (FP.Core.val64 (FP.i2d x)) := FP.Core.i2d_int x
  unfold fp_fin
  cases hv : FP.Core.val64 (FP.i2d x) with
  | nan => rw [hv] at h; exact h.elim
  | inf s => rw [hv] at h; exact h.elim
  | fin s c q => exact ⟨s, c, q, rfl⟩
/-- both arrays of doubles hold finite ones -/
def Ff (σ : CS) : Prop := (∀ j, j < 48 → fp_fin (cF σ 0 j)) ∧ (∀ j, j < 4 → fp_fin (cF σ 1 j))
theorem Ff.eq {σ τ : CS} (h : Ff σ) (e : cF τ = cF σ) : Ff τ := by unfold Ff; rw [e]; exact h
theorem Ff.s0 {σ : CS} (h : Ff σ) {k : Nat} {v : UInt64} (hv : fp_fin v) : Ff (sF σ 0 (vf_upd (cF σ 0) k v)) := by
  refine ⟨fun j hj => ?_, h.2⟩
  show fp_fin (vf_upd (cF σ 0) k v j)
  unfold vf_upd
  split
  · exact hv
  · exact h.1 j hj
theorem Ff.s1 {σ : CS} (h : Ff σ) {k : Nat} {v : UInt64} (hv : fp_fin v) : Ff (sF σ 1 (vf_upd (cF σ 1) k v)) := by
  refine ⟨h.1, fun j hj => ?_⟩
  show fp_fin (vf_upd (cF σ 1) k v j)
  unfold vf_upd
  split
  · exact hv
  · exact h.2 j hj
theorem mvF_ff {σ : CS} (h : Ff σ) {q : Nat → Int32} (hq : okQ q) {a : Int32} (ha : badA a = false) : Ff (mvF σ q a) := by
  have ha' : vp_in a 48 := by
    unfold badA at ha
    split at ha
    · cases ha
    · rename_i h1
      split at ha
      · rename_i h2; exact vp48 h1 h2
      · cases ha
  unfold mvF
  split
  · exact h.eq (pwF_F _ _ _)
  · split
    · exact h.s0 (i2d_fin _)
    · split
      · exact h.s1 (h.1 _ (vp_lt ha'))
      · exact h.s0 (h.2 _ (vp_lt (m4_in hq.2.2.2.1)))
theorem cm_gt {o : Option Ordering} (h : ¬ 0 < Op.cmpValue o .l) : ¬ o = some .gt := by rintro rfl; exact h (by decide)
theorem cm_lt {o : Option Ordering} (h : 0 ≤ Op.cmpValue o .g) : ¬ o = some .lt := by rintro rfl; exact absurd h (by decide)
theorem lim_fin : fp_fin lim9 ∧ fp_fin lim9m := by
  constructor
  · exact ⟨_, _, _, (by decide : FP.Core.val64 lim9 = .fin false 8388608000000000 (-23))⟩
  · exact ⟨_, _, _, (by decide : FP.Core.val64 lim9m = .fin true 8388608000000000 (-23))⟩
theorem ocF_fin {o : Int32} {x y : UInt64} (hx : fp_fin x) (hy : fp_fin y) (h : cfT o x y = false) : fp_fin (ocF o x y) := by
  unfold cfT at h
  split at h
  · cases h
  · rename_i hz
    have hn : vf_n64 (ocF o x y) := by
      unfold ocF
      unfold dzF at hz
      by_cases c1 : o = 10
      · rw [if_pos c1]; exact fp_add hx hy
      · by_cases c2 : o = 11
        · rw [if_neg c1, if_pos c2]; exact fp_sub hx hy
        · by_cases c3 : o = 12
          · rw [if_neg c1, if_neg c2, if_pos c3]; exact fp_mul hx hy
          · rw [if_neg c1, if_neg c2, if_neg c3]
            refine fp_div hx hy (fun z => hz ?_)
            rw [if_neg c1, if_neg c2, if_neg c3, z]
            rfl
    unfold ovF at h
    split at h
    · cases h
    · rename_i h1
      split at h
      · rename_i h2
        exact fp_between (fp_notnan hn) lim_fin.2 lim_fin.1 (cm_gt h1) (cm_lt h2)
      · cases h
theorem cpF_ff {σ : CS} (h : Ff σ) {q : Nat → Int32} (hq : okQ q) (hc : cpT σ q = false) : Ff (cpF σ q) := by
  unfold cpF
  unfold cpT at hc
  split
  · rename_i c0
    rw [if_pos c0] at hc
    split
    · exact h.eq (pwF_F _ _ _)
    · rename_i c1
      rw [if_neg c1] at hc
      split
      · exact h.s1 (i2d_fin _)
      · rename_i c2
        rw [if_neg c2] at hc
        split
        · exact h.eq (pwF_F _ _ _)
        · rename_i c3
          rw [if_neg c3] at hc
          exact h.s1 (ocF_fin (h.2 _ (vp_lt (m4_in hq.2.2.1))) (h.2 _ (vp_lt (m4_in hq.2.2.2.1))) hc)
  · exact h.eq (pwF_F _ _ _)
theorem td24 (x : Int) : x.tdiv 24 = if 0 ≤ x then x / 24 else -((-x) / 24) := by
  split
  · rename_i h; exact Int.tdiv_eq_ediv_of_nonneg h
  · rename_i h
    have h2 : 0 ≤ -x := by omega
    have e : x.tdiv 24 = -((-x).tdiv 24) := by rw [Int.neg_tdiv, Int.neg_neg]
    rw [e, Int.tdiv_eq_ediv_of_nonneg h2]
/-- Java's remainder by 24 -/
theorem rem24 (n : Int32) : (n - n / 24 * 24).toInt = if 0 ≤ n.toInt then n.toInt % 24 else -((-n.toInt) % 24) := by
  have h24 : (24 : Int32).toInt = 24 := by decide
  have b1 := Int32.le_toInt n
  have b2 := Int32.toInt_lt n
  have hd : (n / 24).toInt = n.toInt.tdiv 24 := by rw [Int32.toInt_div_of_ne_right n 24 (by decide), h24]
  rw [Int32.toInt_sub, Int32.toInt_mul, hd, h24, td24]
  split
  · rw [Int.bmod_eq_of_le_mul_two (x := n.toInt / 24 * 24) (by omega) (by omega), Int.bmod_eq_of_le_mul_two (by omega) (by omega)]
    omega
  · rw [Int.bmod_eq_of_le_mul_two (x := -(-n.toInt / 24) * 24) (by omega) (by omega), Int.bmod_eq_of_le_mul_two (by omega) (by omega)]
    omega
theorem xor24 (n : Int32) : 0 ≤ n ^^^ 24 ↔ 0 ≤ n.toInt := by
  rw [Int32.le_iff_toInt_le, Int32.toInt_zero]
  have h1 : (n ^^^ 24).toBitVec.msb = decide ((n ^^^ 24).toBitVec.toInt < 0) := BitVec.msb_eq_toInt
  have h2 : n.toBitVec.msb = decide (n.toBitVec.toInt < 0) := BitVec.msb_eq_toInt
  have h3 : (n ^^^ 24).toBitVec.msb = n.toBitVec.msb := by
    rw [Int32.toBitVec_xor, BitVec.msb_xor]
    rw [show (24 : Int32).toBitVec.msb = false by decide, Bool.xor_false]
  rw [h3, h2] at h1
  have h4 : ((n ^^^ 24).toInt < 0) ↔ (n.toInt < 0) := by
    have := of_decide_eq_true (p := (decide (n.toBitVec.toInt < 0) = decide ((n ^^^ 24).toBitVec.toInt < 0))) (by rw [h1]; simp)
    constructor
    · intro h; exact of_decide_eq_true (this.trans (decide_eq_true h))
    · intro h; exact of_decide_eq_true (this.symm.trans (decide_eq_true h))
  omega
/-- floorMod by 24 -/
theorem flm_toInt (n : Int32) : (flm n 24).toInt = n.toInt % 24 := by
  have hr := rem24 n
  have h24 : (24 : Int32).toInt = 24 := by decide
  unfold flm
  by_cases hp : 0 ≤ n ^^^ 24
  · rw [if_pos hp, hr, if_pos ((xor24 n).mp hp)]
  · have hn : ¬ 0 ≤ n.toInt := fun z => hp ((xor24 n).mpr z)
    rw [if_neg hp]
    rw [if_neg hn] at hr
    by_cases h0 : n - n / 24 * 24 = 0
    · rw [if_pos h0, h0]
      rw [h0, Int32.toInt_zero] at hr
      rw [Int32.toInt_zero]
      omega
    · have h00 : (n - n / 24 * 24).toInt ≠ 0 := fun z => h0 (Int32.toInt_inj.mp (by rw [z]; decide))
      rw [if_neg h0, Int32.toInt_add, hr, h24, Int.bmod_eq_of_le_mul_two (by omega) (by omega)]
      omega
theorem flm_in (n : Int32) : vp_in (flm n 24) 24 := by
  rw [vp_in_iff, flm_toInt]
  omega
theorem nx_in {x : Int32} (h : vp_in x 24) : vp_in (x + 1 - (x + 1) / 24 * 24) 24 := by
  obtain ⟨j, hj, rfl⟩ := vp_in_of h (by decide)
  have : ∀ j, j < 24 → vp_in (nI j + 1 - (nI j + 1) / 24 * 24) 24 := by unfold vp_in; decide
  exact this j hj
theorem dnF_wf {σ : CS} (w : Wf σ) (q : Nat → Int32) (a b c d : Bool) : Wf (dnF σ q a b c d) := by
  have e0 : cI (beF σ q a b c) 0 = cI σ 0 := beF_I0 _ _ _ _ _
  have eP := beF_P σ q a b c
  have eQ := beF_Q σ q a b c
  have eF := beF_F σ q a b c
  unfold dnF
  dsimp only
  split
  · refine ⟨?_, ?_, ?_, ?_, ?_⟩
    · show vp_in (if d = true then flm (q 4) 24 else cI (beF σ q a b c) 0 + 1 - (cI (beF σ q a b c) 0 + 1) / 24 * 24) 24
      split
      · exact flm_in _
      · rw [e0]; exact nx_in w.1
    · show ∀ i, i < 24 → cP (beF σ q a b c) 0 i < 24
      rw [eP]; exact w.2.1
    · show ∀ i, i < 24 → okQ (cQ (beF σ q a b c) i)
      rw [eQ]; exact w.2.2.1
    · show ∀ j, j < 48 → fp_fin (cF (beF σ q a b c) 0 j)
      rw [eF]; exact w.2.2.2.1
    · show ∀ j, j < 4 → fp_fin (cF (beF σ q a b c) 1 j)
      rw [eF]; exact w.2.2.2.2
  · refine ⟨?_, ?_, ?_, ?_, ?_⟩
    · show vp_in (cI (beF σ q a b c) 0) 24
      rw [e0]; exact w.1
    · show ∀ i, i < 24 → cP (beF σ q a b c) 0 i < 24
      rw [eP]; exact w.2.1
    · show ∀ i, i < 24 → okQ (cQ (beF σ q a b c) i)
      rw [eQ]; exact w.2.2.1
    · show ∀ j, j < 48 → fp_fin (cF (beF σ q a b c) 0 j)
      rw [eF]; exact w.2.2.2.1
    · show ∀ j, j < 4 → fp_fin (cF (beF σ q a b c) 1 j)
      rw [eF]; exact w.2.2.2.2
theorem wf_of {σ τ : CS} (w : Wf σ) (h0 : cI τ 0 = cI σ 0) (hP : cP τ = cP σ) (hQ : cQ τ = cQ σ) (hF : Ff τ) : Wf τ :=
  ⟨by rw [h0]; exact w.1, by rw [hP]; exact w.2.1, by rw [hQ]; exact w.2.2.1, hF.1, hF.2⟩
theorem doF_wf {σ : CS} (w : Wf σ) : Wf (doF σ).2 := by
  have ff : Ff σ := ⟨w.2.2.2.1, w.2.2.2.2⟩
  have w1 : Wf (cmF σ (cI σ 0 / 4)).2 := wf_of w (cmF_I0 _ _) (cmF_P _ _) (cmF_Q _ _) (ff.eq (cmF_F _ _))
  have hq : okQ (doQ σ) := by unfold doQ; rw [cmF_Q]; exact w.2.2.1 _ (w.2.1 _ (vp_lt w.1))
  unfold doF
  dsimp only
  generalize (cmF σ (cI σ 0 / 4)).2 = τ at w1 ⊢
  generalize doQ σ = q at hq ⊢
  have ft : Ff τ := ⟨w1.2.2.2.1, w1.2.2.2.2⟩
  unfold doG
  split
  · split
    · exact wf_of (σ := τ) (τ := sI τ 1 1) w1 rfl rfl rfl ft
    · rename_i hb
      refine dnF_wf (wf_of w1 ?_ ?_ ?_ ?_) _ _ _ _ _
      · rw [dmF_I0, mvF_I0]
      · rw [dmF_P, mvF_P]
      · rw [dmF_Q, mvF_Q]
      · exact (mvF_ff ft hq (by simpa using hb)).eq (dmF_F _ _)
  · split
    · split
      · exact dnF_wf w1 _ _ _ _ _
      · exact dnF_wf (wf_of w1 (gwF_I0 _ _ _) (gwF_P _ _ _) (gwF_Q _ _ _) (ft.eq (gwF_F _ _ _))) _ _ _ _ _
    · split
      · exact dnF_wf (σ := sI τ 1 1) (wf_of (σ := τ) (τ := sI τ 1 1) w1 rfl rfl rfl ft) _ _ _ _ _
      · split
        · exact wf_of (σ := τ) (τ := sI τ 1 1) w1 rfl rfl rfl ft
        · rename_i hc
          exact dnF_wf (wf_of w1 (cpF_I0 _ _) (cpF_P _ _) (cpF_Q _ _) (cpF_ff ft hq (by simpa using hc))) _ _ _ _ _
end Wf
