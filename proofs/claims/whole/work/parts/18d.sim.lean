section Sim
/-! THE CLASS AGAINST THE REFERENCE, PURE: pieces -/
/-- what the two states share -/
def pi0 (σ : CS) : MS := (σ.1, σ.2.1, σ.2.2.1)
theorem cm_mg (σ : CS) (i : Int32) : (cmF σ (i / 4)).1 = (mgF (pi0 σ) i).1 ∧ pi0 (cmF σ (i / 4)).2 = (mgF (pi0 σ) i).2 := by
  unfold cmF mgF
  by_cases h : cJ σ 2 (ix (i / 4 - i / 4 / 2 * 2)) = i / 4
  · rw [if_pos h, if_pos (show mJ (pi0 σ) 2 _ = _ from h)]; exact ⟨rfl, rfl⟩
  · rw [if_neg h, if_neg (show ¬ mJ (pi0 σ) 2 _ = _ from h)]; exact ⟨rfl, rfl⟩
/-- a set's two lines and their stamps -/
def LnS (τ : MS) (a b : Nat) : Prop := (mJ τ 3 a < 0 → mJ τ 4 a = 0) ∧ (mJ τ 3 b < 0 → mJ τ 4 b = 0) ∧ 0 ≤ mJ τ 4 b ∧ (¬ mJ τ 3 a < 0 → 0 < mJ τ 4 a) ∧ (¬ mJ τ 3 a < 0 → ¬ mJ τ 3 b < 0 → ¬ mJ τ 4 a = mJ τ 4 b)
theorem dm_ml (σ : CS) (ad : Int32) (h : LnS (pi0 σ) (ix ((ad / 4 - ad / 4 / 2 * 2) * 2)) (ix ((ad / 4 - ad / 4 / 2 * 2) * 2 + 1))) : (dmF σ (ad / 4)).1 = (mlF (pi0 σ) ad).1 ∧ pi0 (dmF σ (ad / 4)).2 = (mlF (pi0 σ) ad).2 := by
  unfold dmF mlF ml1
  generalize ad / 4 = ln at h ⊢
  generalize (ln - ln / 2 * 2) * 2 = s at h ⊢
  have e3 : ∀ k, mJ (tI (pi0 σ) 9 (mI (pi0 σ) 9 + 1)) 3 k = cJ σ 3 k := fun _ => rfl
  have e4 : ∀ k, mJ (tI (pi0 σ) 9 (mI (pi0 σ) 9 + 1)) 4 k = cJ σ 4 k := fun _ => rfl
  obtain ⟨h1, h2, h3, h4, h5⟩ := h
  have h1 : cJ σ 3 (ix s) < 0 → cJ σ 4 (ix s) = 0 := h1
  have h2 : cJ σ 3 (ix (s + 1)) < 0 → cJ σ 4 (ix (s + 1)) = 0 := h2
  have h3 : 0 ≤ cJ σ 4 (ix (s + 1)) := h3
  have h4 : ¬ cJ σ 3 (ix s) < 0 → 0 < cJ σ 4 (ix s) := h4
  have h5 : ¬ cJ σ 3 (ix s) < 0 → ¬ cJ σ 3 (ix (s + 1)) < 0 → ¬ cJ σ 4 (ix s) = cJ σ 4 (ix (s + 1)) := h5
  rw [e3, e3, e4, e4]
  by_cases a1 : cJ σ 3 (ix s) = ln
  · rw [if_pos a1, if_pos a1]; exact ⟨rfl, rfl⟩
  · rw [if_neg a1, if_neg a1]
    by_cases a2 : cJ σ 3 (ix (s + 1)) = ln
    · rw [if_pos a2, if_pos a2]; exact ⟨rfl, rfl⟩
    · rw [if_neg a2, if_neg a2]
      by_cases b1 : cJ σ 3 (ix s) < 0
      · rw [if_pos b1, if_neg (by rw [h1 b1]; exact Int32.not_lt.mpr h3)]
        exact ⟨rfl, rfl⟩
      · rw [if_neg b1]
        by_cases b2 : cJ σ 3 (ix (s + 1)) < 0
        · rw [if_pos b2, if_pos (by rw [h2 b2]; exact h4 b1)]
          exact ⟨rfl, rfl⟩
        · rw [if_neg b2]
          have hne := h5 b1 b2
          by_cases c1 : cJ σ 4 (ix (s + 1)) < cJ σ 4 (ix s)
          · rw [if_pos c1, if_pos (Int32.le_of_lt c1)]; exact ⟨rfl, rfl⟩
          · rw [if_neg c1, if_neg (fun z => hne (Int32.le_antisymm (Int32.not_lt.mp c1) z))]; exact ⟨rfl, rfl⟩
theorem pw_pu (σ : CS) {r : Int32} (v : Int32) (h : vp_in r 8) : pi0 (pwF σ r v) = puF (pi0 σ) r v := by
  unfold pwF puF
  by_cases h0 : r = 0
  · rw [if_pos h0, if_pos ((le0_in h).mpr h0)]
  · rw [if_neg h0, if_neg (fun z => h0 ((le0_in h).mp z))]; rfl
theorem in69 {v : Int32} (k : inF v 6 9 = true) : v = 6 ∨ v = 7 ∨ v = 8 ∨ v = 9 := by
  obtain ⟨h1, h2⟩ := inF_t k
  rw [Int32.lt_iff_toInt_lt] at h1 h2
  have a1 : (6 : Int32).toInt = 6 := by decide
  have a2 : (7 : Int32).toInt = 7 := by decide
  have a3 : (8 : Int32).toInt = 8 := by decide
  have a4 : (9 : Int32).toInt = 9 := by decide
  rw [← Int32.toInt_inj, ← Int32.toInt_inj, ← Int32.toInt_inj, ← Int32.toInt_inj, a1, a2, a3, a4]
  omega
theorem mv_cp (σ : CS) {q : Nat → Int32} (hq : okM q) (ho : inF (q 0) 6 9 = true) : pi0 (mvF σ q (adF σ q)) = cpM (pi0 σ) q := by
  unfold mvF cpM
  rcases in69 ho with e | e | e | e
  · rw [if_pos e, if_neg (by rw [e]; decide), if_neg (by rw [e]; decide), if_neg (by rw [e]; decide), if_neg (by rw [e]; decide), if_neg (by rw [e]; decide), if_pos e, pw_pu _ _ hq.2.1]; rfl
  · rw [if_neg (by rw [e]; decide), if_pos e, if_neg (by rw [e]; decide), if_neg (by rw [e]; decide), if_neg (by rw [e]; decide), if_neg (by rw [e]; decide), if_neg (by rw [e]; decide), if_neg (by rw [e]; decide), if_pos e]; rfl
  · rw [if_neg (by rw [e]; decide), if_neg (by rw [e]; decide), if_pos e, if_neg (by rw [e]; decide), if_neg (by rw [e]; decide), if_neg (by rw [e]; decide), if_neg (by rw [e]; decide), if_neg (by rw [e]; decide), if_neg (by rw [e]; decide), if_neg (by rw [e]; decide), if_pos e]; rfl
  · rw [if_neg (by rw [e]; decide), if_neg (by rw [e]; decide), if_neg (by rw [e]; decide), if_neg (by rw [e]; decide), if_neg (by rw [e]; decide), if_neg (by rw [e]; decide), if_neg (by rw [e]; decide), if_neg (by rw [e]; decide), if_neg (by rw [e]; decide), if_neg (by rw [e]; decide), if_neg (by rw [e]; decide), if_pos e]; rfl
theorem ops {v : Int32} (h : vp_in v 20) : v = 0 ∨ v = 1 ∨ v = 2 ∨ v = 3 ∨ v = 4 ∨ v = 5 ∨ inF v 6 9 = true ∨ inF v 10 13 = true ∨ v = 14 ∨ v = 15 ∨ v = 16 ∨ v = 17 ∨ v = 18 ∨ v = 19 := by
  obtain ⟨o, ho, rfl⟩ := vp_in_of h (by decide)
  have : ∀ o, o < 20 → (nI o = 0 ∨ nI o = 1 ∨ nI o = 2 ∨ nI o = 3 ∨ nI o = 4 ∨ nI o = 5 ∨ inF (nI o) 6 9 = true ∨ inF (nI o) 10 13 = true ∨ nI o = 14 ∨ nI o = 15 ∨ nI o = 16 ∨ nI o = 17 ∨ nI o = 18 ∨ nI o = 19) := by decide
  exact this o ho
/-- compute's ops -/
def cmpQ (v : Int32) : Prop := v = 1 ∨ v = 2 ∨ v = 3 ∨ v = 4 ∨ v = 5 ∨ inF v 10 13 = true ∨ v = 14 ∨ v = 15 ∨ v = 16
theorem cp_cp (σ : CS) {q : Nat → Int32} (hq : okM q) (ho : cmpQ (q 0)) : pi0 (cpF σ q) = cpM (pi0 σ) q := by
  unfold cpF cpM cwF
  rcases ho with e | e | e | e | e | e | e | e | e
  · rw [if_neg (by rw [e]; decide), pw_pu _ _ hq.2.1, if_pos e, if_pos e]; rfl
  · rw [if_neg (by rw [e]; decide), pw_pu _ _ hq.2.1, if_neg (by rw [e]; decide), if_pos e, if_neg (by rw [e]; decide), if_pos e]; rfl
  · rw [if_neg (by rw [e]; decide), pw_pu _ _ hq.2.1, if_neg (by rw [e]; decide), if_neg (by rw [e]; decide), if_pos e, if_neg (by rw [e]; decide), if_neg (by rw [e]; decide), if_pos e]; rfl
  · rw [if_neg (by rw [e]; decide), pw_pu _ _ hq.2.1, if_neg (by rw [e]; decide), if_neg (by rw [e]; decide), if_neg (by rw [e]; decide), if_pos e, if_neg (by rw [e]; decide), if_neg (by rw [e]; decide), if_neg (by rw [e]; decide), if_pos e]; rfl
  · rw [if_neg (by rw [e]; decide), pw_pu _ _ hq.2.1]
    simp only [e]
    rfl
  · have k : ¬ q 0 = 14 ∧ ¬ q 0 = 15 ∧ ¬ q 0 = 16 ∧ ¬ q 0 = 1 ∧ ¬ q 0 = 2 ∧ ¬ q 0 = 3 ∧ ¬ q 0 = 4 ∧ ¬ q 0 = 5 ∧ ¬ q 0 = 6 ∧ ¬ q 0 = 7 ∧ ¬ q 0 = 8 ∧ ¬ q 0 = 9 ∧ 5 < q 0 := by rcases in1013 e with z | z | z | z <;> rw [z] <;> decide
    obtain ⟨k1, k2, k3, k4, k5, k6, k7, k8, k9, k10, k11, k12, k13⟩ := k
    rw [if_pos k13, if_neg k1, if_neg k2, if_neg k3, if_neg k4, if_neg k5, if_neg k6, if_neg k7, if_neg k8, if_neg k9, if_neg k10, if_neg k11, if_neg k12, if_pos e]; rfl
  · rw [if_pos (by rw [e]; decide), if_pos e, pw_pu _ _ hq.2.1]
    simp only [e]
    rfl
  · rw [if_pos (by rw [e]; decide), if_neg (by rw [e]; decide), if_pos e]
    simp only [e]
    rfl
  · rw [if_pos (by rw [e]; decide), if_neg (by rw [e]; decide), if_neg (by rw [e]; decide), if_pos e, pw_pu _ _ hq.2.1]
    simp only [e]
    rfl
/-- ops that compute leaves alone -/
theorem cp_id (τ : MS) {q : Nat → Int32} (ho : q 0 = 0 ∨ q 0 = 17 ∨ q 0 = 18 ∨ q 0 = 19) : cpM τ q = τ := by
  unfold cpM
  rcases ho with e | e | e | e <;> simp only [e] <;> rfl
theorem imax_lt (x y : Int32) : imax x y = ltF x y := by
  unfold ltF imax
  by_cases h : x < y
  · rw [if_pos (Int32.le_of_lt h), if_pos h]
  · rw [if_neg h]
    by_cases h2 : x ≤ y
    · rw [if_pos h2]; exact (Int32.le_antisymm (Int32.not_lt.mp h) h2).symm
    · rw [if_neg h2]
/-- ready times: no register is place 0, where 0 stands -/
theorem rt_eq {σ : CS} {r : Int32} {n : Nat} (h : vp_in r n) (h0 : cJ σ 1 0 = 0) : rtF σ (cv r) = cJ σ 1 (ix r) := by
  unfold rtF
  by_cases hr : r = 0
  · rw [if_pos ((cv_m1 h).mpr hr), hr]; exact h0.symm
  · rw [if_neg (fun z => hr ((cv_m1 h).mp z))]
    unfold cv
    rw [if_neg hr]
theorem add_n (x y : Int32) (h1 : -1000000000 ≤ x.toInt + y.toInt) (h2 : x.toInt + y.toInt ≤ 1000000000) : (x + y).toInt = x.toInt + y.toInt := by
  rw [Int32.toInt_add, Int.bmod_eq_of_le_mul_two (by omega) (by omega)]
theorem sub_n (x y : Int32) (h1 : -1000000000 ≤ x.toInt - y.toInt) (h2 : x.toInt - y.toInt ≤ 1000000000) : (x - y).toInt = x.toInt - y.toInt := by
  rw [Int32.toInt_sub, Int.bmod_eq_of_le_mul_two (by omega) (by omega)]
theorem ltF_n (x y : Int32) : (ltF x y).toInt = if x.toInt ≤ y.toInt then y.toInt else x.toInt := by
  unfold ltF
  by_cases h : x ≤ y
  · rw [if_pos h, if_pos (Int32.le_iff_toInt_le.mp h)]
  · rw [if_neg h, if_neg (fun z => h (Int32.le_iff_toInt_le.mpr z))]
theorem lt_skip {x y : Int32} (h : y.toInt ≤ x.toInt) : ltF x y = x := by
  unfold ltF
  by_cases h2 : x ≤ y
  · rw [if_pos h2]
    rw [Int32.le_iff_toInt_le] at h2
    exact Int32.toInt_inj.mp (by omega)
  · rw [if_neg h2]
/-- the class's latency is that of the reference where something is written; it is 0 to 13 -/
theorem latT_n : ∀ o, o < 20 → 0 ≤ (latT o).toInt ∧ (latT o).toInt ≤ 8 := by decide
end Sim
section Sim2
/-! components of the class's and the reference's steps -/
theorem be_I (σ : CS) (q : Nat → Int32) (a b c : Bool) (k : Nat) (h3 : k ≠ 3) (h4 : k ≠ 4) (h5 : k ≠ 5) (h6 : k ≠ 6) : cI (beF σ q a b c) k = cI σ k := by
  unfold beF
  dsimp only
  split <;> split <;> split <;> simp [cI_sI, cI_sJ, h3, h4, h5, h6]
theorem be_J (σ : CS) (q : Nat → Int32) (a b c : Bool) (k : Nat) (h : k ≠ 1) : cJ (beF σ q a b c) k = cJ σ k := by
  unfold beF
  dsimp only
  split <;> split <;> split <;> simp [cJ_sI, cJ_sJ, h]
abbrev ldI (b : Bool) : Int32 := if b2i b = 0 then 0 else 5
abbrev beT (σ : CS) (q : Nat → Int32) (a b : Bool) : Int32 := bgF σ q (latT (ix (q 0)) + ldI b) a
theorem be_3 (σ : CS) (q : Nat → Int32) (a b c : Bool) : cI (beF σ q a b c) 3 = beT σ q a b := by
  unfold beF
  dsimp only
  split <;> split <;> split <;> rfl
theorem be_6 (σ : CS) (q : Nat → Int32) (a b c : Bool) : cI (beF σ q a b c) 6 = b2i c := by
  unfold beF
  dsimp only
  split <;> split <;> split <;> rfl
theorem be_4 (σ : CS) (q : Nat → Int32) (a b c : Bool) : cI (beF σ q a b c) 4 = if q 0 = 13 then beT σ q a b + 8 else cI σ 4 := by
  unfold beF
  dsimp only
  split <;> split <;> split <;> rfl
theorem be_5 (σ : CS) (q : Nat → Int32) (a b c : Bool) : cI (beF σ q a b c) 5 = if memQ q then beT σ q a b + 1 + ldI b else cI σ 5 := by
  unfold beF
  dsimp only
  split <;> split <;> split <;> rfl
theorem be_J1 (σ : CS) (q : Nat → Int32) (a b c : Bool) : cJ (beF σ q a b c) 1 = if q 5 = -1 then cJ σ 1 else upd (cJ σ 1) (ix (q 5)) (beT σ q a b + (latT (ix (q 0)) + ldI b)) := by
  unfold beF
  dsimp only
  split <;> split <;> split <;> rfl
theorem dn_I (σ : CS) (q : Nat → Int32) (a b c d : Bool) (k : Nat) (h0 : k ≠ 0) (h2 : k ≠ 2) : cI (dnF σ q a b c d) k = cI (beF σ q a b c) k := by
  unfold dnF
  dsimp only
  split <;> simp [cI_sI, h0, h2]
theorem dn_2 (σ : CS) (q : Nat → Int32) (a b c d : Bool) : cI (dnF σ q a b c d) 2 = cI σ 2 + 1 := by
  have := be_I σ q a b c 2 (by decide) (by decide) (by decide) (by decide)
  unfold dnF
  dsimp only
  split <;> simp [cI_sI, this]
theorem dn_0 (σ : CS) (q : Nat → Int32) (a b c d : Bool) (h : cI σ 1 = 0) : cI (dnF σ q a b c d) 0 = if d then flm (q 4) 24 else (cI σ 0 + 1) - (cI σ 0 + 1) / 24 * 24 := by
  have e1 := be_I σ q a b c 1 (by decide) (by decide) (by decide) (by decide)
  have e0 := be_I σ q a b c 0 (by decide) (by decide) (by decide) (by decide)
  unfold dnF
  dsimp only
  rw [e1, if_pos h, e0]
  rfl
theorem dn_0h (σ : CS) (q : Nat → Int32) (a b c d : Bool) (h : ¬ cI σ 1 = 0) : cI (dnF σ q a b c d) 0 = cI σ 0 := by
  have e1 := be_I σ q a b c 1 (by decide) (by decide) (by decide) (by decide)
  have e0 := be_I σ q a b c 0 (by decide) (by decide) (by decide) (by decide)
  unfold dnF
  dsimp only
  rw [e1, if_neg h]
  exact e0
theorem dn_J (σ : CS) (q : Nat → Int32) (a b c d : Bool) : cJ (dnF σ q a b c d) = cJ (beF σ q a b c) := by
  unfold dnF
  dsimp only
  split <;> rfl
theorem dn_F (σ : CS) (q : Nat → Int32) (a b c d : Bool) : cF (dnF σ q a b c d) = cF σ := by
  have : cF (beF σ q a b c) = cF σ := by
    unfold beF
    dsimp only
    split <;> split <;> split <;> rfl
  rw [← this]
  unfold dnF
  dsimp only
  split <;> rfl
theorem dn_P (σ : CS) (q : Nat → Int32) (a b c d : Bool) : cP (dnF σ q a b c d) = cP σ := by
  have : cP (beF σ q a b c) = cP σ := by
    unfold beF
    dsimp only
    split <;> split <;> split <;> rfl
  rw [← this]
  unfold dnF
  dsimp only
  split <;> rfl
theorem dn_Q (σ : CS) (q : Nat → Int32) (a b c d : Bool) : cQ (dnF σ q a b c d) = cQ σ := by
  rw [← beF_Q σ q a b c]
  unfold dnF
  dsimp only
  split <;> rfl
theorem ck_I (τ : MS) (q : Nat → Int32) (t l m : Int32) (k : Nat) (h2 : k ≠ 2) (h3 : k ≠ 3) (h4 : k ≠ 4) (h5 : k ≠ 5) (h6 : k ≠ 6) : mI (ckM τ q t l m) k = mI τ k := by
  unfold ckM ck1
  dsimp only
  split <;> split <;> split <;> simp [mI_tI, mI_tJ, h2, h3, h4, h5, h6]
theorem ck_2 (τ : MS) (q : Nat → Int32) (t l m : Int32) : mI (ckM τ q t l m) 2 = mI τ 2 + 1 := by
  unfold ckM ck1
  dsimp only
  split <;> split <;> split <;> rfl
theorem ck_3 (τ : MS) (q : Nat → Int32) (t l m : Int32) : mI (ckM τ q t l m) 3 = t := by
  unfold ckM ck1
  dsimp only
  split <;> split <;> split <;> rfl
theorem ck_6 (τ : MS) (q : Nat → Int32) (t l m : Int32) : mI (ckM τ q t l m) 6 = 0 := by
  unfold ckM ck1
  dsimp only
  split <;> split <;> split <;> rfl
theorem ck_4 (τ : MS) (q : Nat → Int32) (t l m : Int32) : mI (ckM τ q t l m) 4 = if q 0 = 13 then t + 8 else mI τ 4 := by
  unfold ckM ck1
  dsimp only
  split <;> split <;> split <;> rfl
theorem ck_5 (τ : MS) (q : Nat → Int32) (t l m : Int32) : mI (ckM τ q t l m) 5 = if inF (q 0) 6 9 then t + 1 + m else mI τ 5 := by
  unfold ckM ck1
  dsimp only
  split <;> split <;> split <;> rfl
theorem ck_J1 (τ : MS) (q : Nat → Int32) (t l m : Int32) : mJ (ckM τ q t l m) 1 = if taQ q ≤ 0 then mJ τ 1 else upd (mJ τ 1) (ix (taQ q)) (t + l) := by
  unfold ckM ck1
  dsimp only
  split <;> split <;> split <;> rfl
/-- the same whole registers and doubles before: the same after compute -/
theorem cp_dep {α β : MS} (q : Nat → Int32) (h0 : mJ α 0 = mJ β 0) (h1 : mF α 0 = mF β 0) (h2 : mF α 1 = mF β 1) : mJ (cpM α q) 0 = mJ (cpM β q) 0 ∧ mF (cpM α q) 0 = mF (cpM β q) 0 ∧ mF (cpM α q) 1 = mF (cpM β q) 1 := by
  have pu : ∀ r v, mJ (puF α r v) 0 = mJ (puF β r v) 0 ∧ mF (puF α r v) 0 = mF (puF β r v) 0 ∧ mF (puF α r v) 1 = mF (puF β r v) 1 := by
    intro r v
    unfold puF
    split
    · exact ⟨h0, h1, h2⟩
    · exact ⟨by simp [mJ_tJ, h0], h1, h2⟩
  unfold cpM adM
  rw [h0, h1, h2]
  repeat' first | exact pu _ _ | exact ⟨h0, rfl, h2⟩ | exact ⟨h0, h1, rfl⟩ | exact ⟨h0, h1, h2⟩ | refine iteP2 ?_ ?_
where
  iteP2 {c : Prop} [Decidable c] {a b a' b' : MS} (ha : mJ a 0 = mJ a' 0 ∧ mF a 0 = mF a' 0 ∧ mF a 1 = mF a' 1) (hb : mJ b 0 = mJ b' 0 ∧ mF b 0 = mF b' 0 ∧ mF b 1 = mF b' 1) : mJ (if c then a else b) 0 = mJ (if c then a' else b') 0 ∧ mF (if c then a else b) 0 = mF (if c then a' else b') 0 ∧ mF (if c then a else b) 1 = mF (if c then a' else b') 1 := by
    split <;> assumption
theorem cp_I (τ : MS) (q : Nat → Int32) (k : Nat) : mI (cpM τ q) k = mI τ k := by
  have pu : ∀ r v, mI (puF τ r v) k = mI τ k := by intro r v; unfold puF; split <;> rfl
  unfold cpM
  repeat' first | exact pu _ _ | rfl | refine iteP (P := fun x => mI x k = mI τ k) ?_ ?_
theorem ml_dep {α β : MS} (ad : Int32) (h3 : mJ α 3 = mJ β 3) (h4 : mJ α 4 = mJ β 4) (h8 : mI α 8 = mI β 8) (h9 : mI α 9 = mI β 9) : (mlF α ad).1 = (mlF β ad).1 ∧ mJ (mlF α ad).2 3 = mJ (mlF β ad).2 3 ∧ mJ (mlF α ad).2 4 = mJ (mlF β ad).2 4 ∧ mI (mlF α ad).2 8 = mI (mlF β ad).2 8 ∧ mI (mlF α ad).2 9 = mI (mlF β ad).2 9 := by
  unfold mlF ml1 ml2
  simp only [mJ_tI, mI_tI, h3, h4, h8, h9]
  repeat' split
  all_goals simp [mJ_tI, mI_tI, mJ_tJ, mI_tJ, h3, h4, h8, h9]
theorem mg_dep {α β : MS} (i : Int32) (h2 : mJ α 2 = mJ β 2) (h7 : mI α 7 = mI β 7) : (mgF α i).1 = (mgF β i).1 ∧ mJ (mgF α i).2 2 = mJ (mgF β i).2 2 ∧ mI (mgF α i).2 7 = mI (mgF β i).2 7 := by
  unfold mgF
  rw [h2, h7]
  split
  · exact ⟨rfl, h2, h7⟩
  · exact ⟨rfl, rfl, rfl⟩
end Sim2
section Sim3
/-! time -/
def t3F (τ : MS) (q : Nat → Int32) (t : Int32) : Int32 :=
  if inF (q 0) 6 9 then ltF (if q 0 = 13 then ltF (ltF (ltF t (mJ τ 1 (ix (fiQ q)))) (mJ τ 1 (ix (seQ q)))) (mI τ 4) else ltF (ltF t (mJ τ 1 (ix (fiQ q)))) (mJ τ 1 (ix (seQ q)))) (mI τ 5)
  else (if q 0 = 13 then ltF (ltF (ltF t (mJ τ 1 (ix (fiQ q)))) (mJ τ 1 (ix (seQ q)))) (mI τ 4) else ltF (ltF t (mJ τ 1 (ix (fiQ q)))) (mJ τ 1 (ix (seQ q))))
theorem tm_t3 (τ : MS) (q : Nat → Int32) (t l : Int32) : tmM τ q t l = if taQ q ≤ 0 then t3F τ q t else ltF (t3F τ q t) (mJ τ 1 (ix (taQ q)) - l + 1) := rfl
/-- the times stand between these -/
def Tm (d : Nat) (τ : MS) : Prop := (-1 ≤ (mI τ 3).toInt ∧ (mI τ 3).toInt ≤ 15 * (d : Int)) ∧ (0 ≤ (mI τ 4).toInt ∧ (mI τ 4).toInt ≤ 15 * (d : Int)) ∧ (0 ≤ (mI τ 5).toInt ∧ (mI τ 5).toInt ≤ 15 * (d : Int)) ∧ ∀ k, k < 12 → 0 ≤ (mJ τ 1 k).toInt ∧ (mJ τ 1 k).toInt ≤ 15 * (d : Int)
theorem ltF_b {x y : Int32} {a b : Int} (h1 : a ≤ x.toInt) (h2 : x.toInt ≤ b) (h3 : y.toInt ≤ b) : a ≤ (ltF x y).toInt ∧ (ltF x y).toInt ≤ b := by
  rw [ltF_n]
  split <;> omega
theorem t3_b {d : Nat} {τ : MS} {q : Nat → Int32} {t : Int32} (hq : okM q) (h : Tm d τ) {a : Int} (h1 : a ≤ t.toInt) (h2 : t.toInt ≤ 15 * (d : Int) + 7) : a ≤ (t3F τ q t).toInt ∧ (t3F τ q t).toInt ≤ 15 * (d : Int) + 7 := by
  obtain ⟨b3, b4, b5, bJ⟩ := h
  have j1 := bJ _ (vp_lt (fi_in hq))
  have j2 := bJ _ (vp_lt (se_in hq))
  have k1 := ltF_b (y := mJ τ 1 (ix (fiQ q))) h1 h2 (by unfold ix; omega)
  have k2 := ltF_b (y := mJ τ 1 (ix (seQ q))) k1.1 k1.2 (by unfold ix; omega)
  have k3 := ltF_b (y := mI τ 4) k2.1 k2.2 (by omega)
  unfold t3F
  split
  · split
    · exact ltF_b k3.1 k3.2 (by omega)
    · exact ltF_b k2.1 k2.2 (by omega)
  · split
    · exact k3
    · exact k2
theorem la_n {q : Nat → Int32} (h : okM q) : 1 ≤ (laQ q).toInt ∧ (laQ q).toInt ≤ 8 := by
  obtain ⟨o, ho, e0⟩ := vp_in_of h.1 (by decide)
  have k : ∀ o, o < 20 → 1 ≤ (laQ (becQ (nI o) 0 0 0 0)).toInt ∧ (laQ (becQ (nI o) 0 0 0 0)).toInt ≤ 8 := by decide
  have := k o ho
  unfold laQ at this ⊢
  rw [e0]
  exact this
theorem la2 {q : Nat → Int32} (h : q 0 = 6 ∨ q 0 = 8) : laQ q = 2 := by
  unfold laQ
  rcases h with e | e <;> simp only [e] <;> rfl
theorem laM_n {q : Nat → Int32} (h : okM q) (lm : Bool) : 1 ≤ (laM q (ldI lm)).toInt ∧ (laM q (ldI lm)).toInt ≤ 8 := by
  have k := la_n h
  unfold laM
  by_cases h6 : q 0 = 6
  · rw [if_pos h6, la2 (Or.inl h6)]; cases lm <;> decide
  · rw [if_neg h6]
    by_cases h8 : q 0 = 8
    · rw [if_pos h8, la2 (Or.inr h8)]; cases lm <;> decide
    · rw [if_neg h8, Int32.add_zero]; exact k
theorem tm_b {d : Nat} {τ : MS} {q : Nat → Int32} {t l : Int32} (hd : 15 * (d : Int) < 900000000) (hq : okM q) (h : Tm d τ) (hl : 1 ≤ l.toInt ∧ l.toInt ≤ 8) {a : Int} (h1 : a ≤ t.toInt) (h2 : t.toInt ≤ 15 * (d : Int) + 7) : a ≤ (tmM τ q t l).toInt ∧ (tmM τ q t l).toInt ≤ 15 * (d : Int) + 7 := by
  have k := t3_b hq h h1 h2
  rw [tm_t3]
  split
  · exact k
  · have j := h.2.2.2 _ (vp_lt (ta_in hq))
    refine ltF_b k.1 k.2 ?_
    have e1 : (1 : Int32).toInt = 1 := by decide
    have s1 := sub_n (mJ τ 1 (ix (taQ q))) l (by unfold ix; omega) (by unfold ix; omega)
    rw [add_n _ _ (by rw [s1, e1]; unfold ix; omega) (by rw [s1, e1]; unfold ix; omega), s1, e1]
    unfold ix
    omega
/-- the time before anything is waited for -/
def t2F (τ : MS) (g : Bool) : Int32 := if mI τ 6 = 0 then (if g then mI τ 3 + 1 + 4 else mI τ 3 + 1) else (if g then mI τ 3 + 1 + 4 else mI τ 3 + 1) + 2
theorem t2_b {d : Nat} {τ : MS} {g : Bool} (hd : 15 * (d : Int) < 900000000) (h : Tm d τ) (hg : mI τ 3 = -1 → g = true) : 1 ≤ (t2F τ g).toInt ∧ (t2F τ g).toInt ≤ 15 * (d : Int) + 7 := by
  have e1 : (1 : Int32).toInt = 1 := by decide
  have e2 : (2 : Int32).toInt = 2 := by decide
  have e4 : (4 : Int32).toInt = 4 := by decide
  have b3 := h.1
  have s1 := add_n (mI τ 3) 1 (by rw [e1]; omega) (by rw [e1]; omega)
  rw [e1] at s1
  have s4 := add_n (mI τ 3 + 1) 4 (by rw [e4]; omega) (by rw [e4]; omega)
  rw [e4] at s4
  have hx : 1 ≤ (if g then mI τ 3 + 1 + 4 else mI τ 3 + 1).toInt ∧ (if g then mI τ 3 + 1 + 4 else mI τ 3 + 1).toInt ≤ 15 * (d : Int) + 5 := by
    cases g with
    | true => rw [if_pos rfl]; omega
    | false =>
      have hn : ¬ (mI τ 3).toInt = -1 := fun z => Bool.noConfusion (hg (Int32.toInt_inj.mp (by rw [z]; decide)))
      rw [if_neg (by decide)]
      omega
  unfold t2F
  generalize (if g then mI τ 3 + 1 + 4 else mI τ 3 + 1) = x at hx
  split
  · omega
  · have := add_n x 2 (by rw [e2]; omega) (by rw [e2]; omega)
    rw [this, e2]
    omega
theorem ld_m (lm : Bool) : ldI lm = if b2i lm = 0 then 0 else 5 := rfl
/-- the class's beginning is the reference's -/
theorem bg_tm {σ : CS} {τ : MS} {q : Nat → Int32} {d : Nat} (hd : 15 * (d : Int) < 900000000) (hq : okM q) (gm lm : Bool) (hlm : lm = true → inF (q 0) 6 9 = true) (hJ1 : cJ σ 1 = mJ τ 1) (h3 : cI σ 3 = mI τ 3) (h4 : cI σ 4 = mI τ 4) (h5 : cI σ 5 = mI τ 5) (h6 : cI σ 6 = mI τ 6) (h0 : mJ τ 1 0 = 0) (hT : Tm d τ) (hg : mI τ 3 = -1 → gm = true) :
    beT σ (bq q) gm lm = tmM τ q (t2F τ gm) (laM q (ldI lm)) := by
  have r0 : cJ σ 1 0 = 0 := by rw [hJ1]; exact h0
  have e0 : bq q 0 = q 0 := rfl
  have ef := rt_eq (σ := σ) (fi_in hq) r0
  have es := rt_eq (σ := σ) (se_in hq) r0
  have et := rt_eq (σ := σ) (ta_in hq) r0
  have hb := t2_b hd hT hg
  have h3b := t3_b hq hT hb.1 hb.2
  have ht0 : cI σ 3 + 1 + (if b2i gm = 0 then 0 else 4) + (if cI σ 6 = 0 then 0 else 2) = t2F τ gm := by
    rw [h3, h6]
    unfold t2F
    cases gm
    · by_cases z : mI τ 6 = 0
      · rw [if_pos z, if_pos z]; show mI τ 3 + 1 + 0 + 0 = mI τ 3 + 1; rw [Int32.add_zero, Int32.add_zero]
      · rw [if_neg z, if_neg z]; show mI τ 3 + 1 + 0 + 2 = mI τ 3 + 1 + 2; rw [Int32.add_zero]
    · by_cases z : mI τ 6 = 0
      · rw [if_pos z, if_pos z]; show mI τ 3 + 1 + 4 + 0 = mI τ 3 + 1 + 4; rw [Int32.add_zero]
      · rw [if_neg z, if_neg z]; rfl
  have hmain : beT σ (bq q) gm lm = ltF (t3F τ q (t2F τ gm)) (cJ σ 1 (ix (taQ q)) - (latT (ix (q 0)) + ldI lm) + 1) := by
    show bgF σ (bq q) (latT (ix (q 0)) + ldI lm) gm = _
    unfold bgF
    dsimp only
    rw [bq5 hq, bq6 hq, bq7 hq, ef, es, et, ht0, hJ1, h4, h5]
    simp only [imax_lt]
    rfl
  rw [hmain, tm_t3]
  by_cases hz : taQ q = 0
  · rw [if_pos ((le0_in (ta_in hq)).mpr hz)]
    apply lt_skip
    have hc : cJ σ 1 (ix (taQ q)) = 0 := by rw [hz]; exact r0
    rw [hc]
    obtain ⟨o, ho, eo⟩ := vp_in_of hq.1 (by decide)
    have k : ∀ o, o < 20 → ∀ lm : Bool, (0 - (latT (ix (nI o)) + ldI lm) + 1).toInt ≤ 1 := by decide
    have := k o ho lm
    rw [eo]
    omega
  · rw [if_neg (fun z => hz ((le0_in (ta_in hq)).mp z)), hJ1]
    have : latT (ix (q 0)) + ldI lm = laM q (ldI lm) := by
      rw [lat_q hq hz]
      unfold laM
      cases lm with
      | false => show laQ q + 0 = laQ q + (if q 0 = 6 then 0 else if q 0 = 8 then 0 else 0); rw [ite_self, ite_self]
      | true =>
        have hm := hlm rfl
        rcases in69 hm with e | e | e | e
        · rw [if_pos e]
        · exact absurd (by unfold taQ; simp only [e]; rfl) hz
        · rw [if_neg (by rw [e]; decide), if_pos e]
        · exact absurd (by unfold taQ; simp only [e]; rfl) hz
    rw [this]
/-- what the clock keeps stays in bounds -/
theorem ck_tm {d : Nat} {τ : MS} {q : Nat → Int32} {t : Int32} (lm : Bool) (hd : 15 * (d : Int) < 900000000) (hq : okM q) (h : Tm d τ) (h1 : 0 ≤ t.toInt) (h2 : t.toInt ≤ 15 * (d : Int) + 7) : Tm (d + 1) (ckM τ q t (laM q (ldI lm)) (ldI lm)) := by
  have hl := laM_n hq lm
  obtain ⟨b3, b4, b5, bJ⟩ := h
  have e8 : (8 : Int32).toInt = 8 := by decide
  have e1 : (1 : Int32).toInt = 1 := by decide
  have hm : 0 ≤ (ldI lm).toInt ∧ (ldI lm).toInt ≤ 5 := by cases lm <;> decide
  refine ⟨?_, ?_, ?_, ?_⟩
  · rw [ck_3]; omega
  · rw [ck_4]
    split
    · rw [add_n _ _ (by rw [e8]; omega) (by rw [e8]; omega), e8]; omega
    · omega
  · rw [ck_5]
    split
    · have s1 := add_n t 1 (by rw [e1]; omega) (by rw [e1]; omega)
      rw [e1] at s1
      rw [add_n _ _ (by rw [s1]; omega) (by rw [s1]; omega), s1]; omega
    · omega
  · intro k hk
    rw [ck_J1]
    have := bJ k hk
    split
    · omega
    · unfold upd
      split
      · rw [add_n _ _ (by omega) (by omega)]; omega
      · omega
theorem ck_r0 {τ : MS} {q : Nat → Int32} {t l m : Int32} (hq : okM q) (h : mJ τ 1 0 = 0) : mJ (ckM τ q t l m) 1 0 = 0 := by
  rw [ck_J1]
  split
  · exact h
  · rename_i hn
    unfold upd
    rw [if_neg]
    · exact h
    · intro z
      apply hn
      rw [le0_in (ta_in hq)]
      obtain ⟨o, ho, e⟩ := vp_in_of (ta_in hq) (by decide)
      rw [e] at z ⊢
      rw [ix_nI (by omega)] at z
      rw [← z]; rfl
end Sim3
section Sim4
/-! lines and their stamps -/
def LnC (d : Nat) (c : Int32) (ln us : Nat → Int32) : Prop :=
  (0 ≤ c.toInt ∧ c.toInt ≤ (d : Int)) ∧ (∀ p, p < 4 → (ln p < 0 → us p = 0) ∧ (¬ ln p < 0 → 0 < us p) ∧ 0 ≤ (us p).toInt ∧ (us p).toInt ≤ c.toInt) ∧
  (¬ ln 0 < 0 → ¬ ln 1 < 0 → ¬ us 0 = us 1) ∧ (¬ ln 2 < 0 → ¬ ln 3 < 0 → ¬ us 2 = us 3)
theorem LnC.up {d : Nat} {c v : Int32} {ln us : Nat → Int32} (h : LnC d c ln us) (hd : (d : Int) < 900000000) {p : Nat} (hp : p < 4) (hv : ¬ v < 0) : LnC (d + 1) (c + 1) (upd ln p v) (upd us p (c + 1)) := by
  obtain ⟨hc, hl, h0, h2⟩ := h
  have e1 : (1 : Int32).toInt = 1 := by decide
  have s1 := add_n c 1 (by rw [e1]; omega) (by rw [e1]; omega)
  rw [e1] at s1
  have ne : ∀ k, k < 4 → ¬ us k = c + 1 := fun k hk z => by
    have := (hl k hk).2.2.2
    rw [z, s1] at this
    omega
  refine ⟨by omega, fun k hk => ?_, ?_, ?_⟩
  · unfold upd
    by_cases hkp : k = p
    · rw [if_pos hkp, if_pos hkp]
      refine ⟨fun z => absurd z hv, fun _ => ?_, by omega, by omega⟩
      rw [Int32.lt_iff_toInt_lt, Int32.toInt_zero]; omega
    · rw [if_neg hkp, if_neg hkp]
      have := hl k hk
      exact ⟨this.1, this.2.1, this.2.2.1, by omega⟩
  · unfold upd
    by_cases p0 : 0 = p
    · rw [if_pos p0, if_pos p0, if_neg (by omega), if_neg (by omega)]
      exact fun _ _ z => ne 1 (by omega) z.symm
    · rw [if_neg p0, if_neg p0]
      by_cases p1 : 1 = p
      · rw [if_pos p1, if_pos p1]; exact fun _ _ z => ne 0 (by omega) z
      · rw [if_neg p1, if_neg p1]; exact h0
  · unfold upd
    by_cases p0 : 2 = p
    · rw [if_pos p0, if_pos p0, if_neg (by omega), if_neg (by omega)]
      exact fun _ _ z => ne 3 (by omega) z.symm
    · rw [if_neg p0, if_neg p0]
      by_cases p1 : 3 = p
      · rw [if_pos p1, if_pos p1]; exact fun _ _ z => ne 2 (by omega) z
      · rw [if_neg p1, if_neg p1]; exact h2
theorem LnC.more {d d' : Nat} {c : Int32} {ln us : Nat → Int32} (h : LnC d c ln us) (hd : d ≤ d') : LnC d' c ln us := ⟨by have := h.1; omega, h.2⟩
theorem upd_self (f : Nat → Int32) (k : Nat) : upd f k (f k) = f := by
  funext j
  unfold upd
  split
  · rename_i e; rw [e]
  · rfl
theorem ad4 {ad : Int32} (h : vp_in ad 48) : ¬ ad / 4 < 0 ∧ ((ix ((ad / 4 - ad / 4 / 2 * 2) * 2) = 0 ∧ ix ((ad / 4 - ad / 4 / 2 * 2) * 2 + 1) = 1) ∨ (ix ((ad / 4 - ad / 4 / 2 * 2) * 2) = 2 ∧ ix ((ad / 4 - ad / 4 / 2 * 2) * 2 + 1) = 3)) := by
  obtain ⟨j, hj, rfl⟩ := vp_in_of h (by decide)
  have : ∀ j, j < 48 → ¬ nI j / 4 < 0 ∧ ((ix ((nI j / 4 - nI j / 4 / 2 * 2) * 2) = 0 ∧ ix ((nI j / 4 - nI j / 4 / 2 * 2) * 2 + 1) = 1) ∨ (ix ((nI j / 4 - nI j / 4 / 2 * 2) * 2) = 2 ∧ ix ((nI j / 4 - nI j / 4 / 2 * 2) * 2 + 1) = 3)) := by decide
  exact this j hj
theorem LnC.ml {d : Nat} {τ : MS} (h : LnC d (mI τ 9) (mJ τ 3) (mJ τ 4)) (hd : (d : Int) < 900000000) {ad : Int32} (ha : vp_in ad 48) : LnC (d + 1) (mI (mlF τ ad).2 9) (mJ (mlF τ ad).2 3) (mJ (mlF τ ad).2 4) := by
  obtain ⟨hv, hs⟩ := ad4 ha
  have p1 : ix ((ad / 4 - ad / 4 / 2 * 2) * 2) < 4 := by rcases hs with ⟨a, b⟩ | ⟨a, b⟩ <;> omega
  have p2 : ix ((ad / 4 - ad / 4 / 2 * 2) * 2 + 1) < 4 := by rcases hs with ⟨a, b⟩ | ⟨a, b⟩ <;> omega
  have hit : ∀ p, p < 4 → mJ τ 3 p = ad / 4 → LnC (d + 1) (mI τ 9 + 1) (mJ τ 3) (upd (mJ τ 4) p (mI τ 9 + 1)) := fun p hp e => by
    have := h.up hd hp (v := mJ τ 3 p) (by rw [e]; exact hv)
    rwa [upd_self] at this
  have miss : ∀ p, p < 4 → LnC (d + 1) (mI τ 9 + 1) (upd (mJ τ 3) p (ad / 4)) (upd (mJ τ 4) p (mI τ 9 + 1)) := fun p hp => h.up hd hp hv
  unfold mlF ml1 ml2
  generalize ix ((ad / 4 - ad / 4 / 2 * 2) * 2) = a at p1 ⊢
  generalize ix ((ad / 4 - ad / 4 / 2 * 2) * 2 + 1) = b at p2 ⊢
  have e3 : mJ (tI τ 9 (mI τ 9 + 1)) 3 = mJ τ 3 := rfl
  rw [e3]
  by_cases a1 : mJ τ 3 a = ad / 4
  · rw [if_pos a1]; exact hit a p1 a1
  · rw [if_neg a1]
    by_cases a2 : mJ τ 3 b = ad / 4
    · rw [if_pos a2]; exact hit b p2 a2
    · rw [if_neg a2]
      refine iteP (P := fun x : Bool × MS => LnC (d + 1) (mI x.2 9) (mJ x.2 3) (mJ x.2 4)) (miss a p1) (iteP (P := fun x : Bool × MS => LnC (d + 1) (mI x.2 9) (mJ x.2 3) (mJ x.2 4)) (miss b p2) (iteP (P := fun x : Bool × MS => LnC (d + 1) (mI x.2 9) (mJ x.2 3) (mJ x.2 4)) (miss b p2) (miss a p1)))
theorem LnC.s {d : Nat} {τ : MS} (h : LnC d (mI τ 9) (mJ τ 3) (mJ τ 4)) {ad : Int32} (ha : vp_in ad 48) : LnS τ (ix ((ad / 4 - ad / 4 / 2 * 2) * 2)) (ix ((ad / 4 - ad / 4 / 2 * 2) * 2 + 1)) := by
  obtain ⟨hv, hs⟩ := ad4 ha
  obtain ⟨hc, hl, h0, h2⟩ := h
  have z : ∀ x : Int32, 0 ≤ x.toInt → 0 ≤ x := fun x hx => by rw [Int32.le_iff_toInt_le, Int32.toInt_zero]; exact hx
  rcases hs with ⟨a, b⟩ | ⟨a, b⟩
  · rw [a, b]
    exact ⟨(hl 0 (by omega)).1, (hl 1 (by omega)).1, z _ (hl 1 (by omega)).2.2.1, (hl 0 (by omega)).2.1, h0⟩
  · rw [a, b]
    exact ⟨(hl 2 (by omega)).1, (hl 3 (by omega)).1, z _ (hl 3 (by omega)).2.2.1, (hl 2 (by omega)).2.1, h2⟩
/-! the relation -/
/-- the parts of both states that are the same -/
def Sh (σ : CS) (τ : MS) : Prop := (∀ k, k ≤ 10 → cI σ k = mI τ k) ∧ (∀ k, k ≤ 5 → cJ σ k = mJ τ k) ∧ cJ σ 7 = mJ τ 11 ∧ cF σ 0 = mF τ 0 ∧ cF σ 1 = mF τ 1
/-- what holds of the reference's state -/
def Mok (d : Nat) (τ : MS) : Prop := (∀ i, i < 24 → okM (mq τ i)) ∧ (∀ k, k < 8 → 0 ≤ (mJ τ 5 k).toInt ∧ (mJ τ 5 k).toInt ≤ 3) ∧ mJ τ 1 0 = 0 ∧ Tm d τ ∧ (mI τ 1 = 0 → mI τ 3 = -1 → mJ τ 2 0 = -1 ∧ mJ τ 2 1 = -1) ∧ LnC d (mI τ 9) (mJ τ 3) (mJ τ 4)
/-- the code: objects in places -/
def Cod (σ : CS) (τ : MS) : Prop := (∀ i, i < 24 → cQ σ (cP σ 0 i) = bq (mq τ i)) ∧ ∀ i j, i < 24 → j < 24 → cP σ 0 i = cP σ 0 j → i = j
def Rel (d : Nat) (σ : CS) (τ : MS) : Prop := Sh σ τ ∧ Mok d τ ∧ Cod σ τ ∧ Wf σ
theorem Rel.mwf {d : Nat} {σ : CS} {τ : MS} (r : Rel d σ τ) : MWf τ := by
  obtain ⟨⟨hI, hJ, hH, hF0, hF1⟩, hM, hC, w⟩ := r
  refine ⟨by rw [← hI 0 (by omega)]; exact w.1, hM.1, ?_, ?_⟩
  · rw [← hF0]; exact w.2.2.2.1
  · rw [← hF1]; exact w.2.2.2.2
theorem in0_23 {i : Int32} (h : vp_in i 24) : ix i < 24 := vp_lt h
/-- a group is missing in an empty store -/
theorem mg_miss {τ : MS} {i : Int32} (hi : vp_in i 24) (h0 : mJ τ 2 0 = -1) (h1 : mJ τ 2 1 = -1) : (mgF τ i).1 = true := by
  unfold mgF
  obtain ⟨j, hj, rfl⟩ := vp_in_of hi (by decide)
  have k : ∀ j, j < 24 → (ix (nI j / 4 - nI j / 4 / 2 * 2) = 0 ∨ ix (nI j / 4 - nI j / 4 / 2 * 2) = 1) ∧ ¬ (-1 : Int32) = nI j / 4 := by decide
  obtain ⟨k1, k2⟩ := k j hj
  have : ¬ mJ τ 2 (ix (nI j / 4 - nI j / 4 / 2 * 2)) = nI j / 4 := by
    rcases k1 with e | e <;> rw [e]
    · rw [h0]; exact k2
    · rw [h1]; exact k2
  rw [if_neg this]
end Sim4
