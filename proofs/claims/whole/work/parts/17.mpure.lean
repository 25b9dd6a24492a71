/-! THE REFERENCE AS PURE FUNCTIONS; two rules for walks: a counting loop, ways that meet -/
section Loops
variable {p : Program} {l : Launch} {e : Env} {R : Room} {s : State} {m : MethodId} {args : Array Value} {below : List Frame} {meth : Method} {c : Code} {cells slots : Nat} {Q : State → Prop}
/-- a loop that counts from j to N: P j holds at its head -/
theorem W_for {N : Nat} (P : Nat → Heap → List Loc → Array Slot → Prop) (g : Array Slot → JFrame)
    (step : ∀ j H locs ls, j < N → P j H locs ls → (∀ H' locs' ls', P (j + 1) H' locs' ls' → W p l e R s m args below meth c H' locs' cells slots Q (g ls')) → W p l e R s m args below meth c H locs cells slots Q (g ls))
    (last : ∀ H locs ls, P N H locs ls → W p l e R s m args below meth c H locs cells slots Q (g ls)) :
    ∀ j H locs ls, j ≤ N → P j H locs ls → W p l e R s m args below meth c H locs cells slots Q (g ls) := by
  suffices h : ∀ k j H locs ls, j + k = N → P j H locs ls → W p l e R s m args below meth c H locs cells slots Q (g ls) from
    fun j H locs ls hj hP => h (N - j) j H locs ls (by omega) hP
  intro k
  induction k with
  | zero => intro j H locs ls hj hP; rw [show j = N by omega] at hP; exact last H locs ls hP
  | succ k ih => intro j H locs ls hj hP; exact step j H locs ls (by omega) hP (fun H' locs' ls' hP' => ih (j + 1) H' locs' ls' (by omega) hP')
/-- ways that meet, the heap changed on some of them -/
theorem W_jh {α : Type} {P : α → Heap → List Loc → Array Slot → Prop} (g2 : α → Array Slot → JFrame) {g : JFrame} {H : Heap} {locs : List Loc}
    (k : ∀ a H locs ls, P a H locs ls → W p l e R s m args below meth c H locs cells slots Q (g2 a ls))
    (h : (∀ a H locs ls, P a H locs ls → W p l e R s m args below meth c H locs cells slots Q (g2 a ls)) → W p l e R s m args below meth c H locs cells slots Q g) : W p l e R s m args below meth c H locs cells slots Q g := h k
end Loops
section MPure
/-- the five numbers of the instruction at a place -/
def mq (τ : MS) (k : Nat) : Nat → Int32 := fun j => mJ τ (6 + j) k
def inF (v l h : Int32) : Bool := if v < l then false else if h < v then false else true
def bdF (τ : MS) (f : Bool) : MS := tI τ 11 (b2i (!f))
abbrev r4 (x : Int32) : Int32 := x - x / 4 * 4
def fiQ (q : Nat → Int32) : Int32 := if q 0 = 0 then 0 else if q 0 = 19 then 0 else if inF (q 0) 10 14 then 8 + r4 (q 2) else if q 0 = 16 then 8 + r4 (q 2) else q 2
def seQ (q : Nat → Int32) : Int32 := if inF (q 0) 2 5 then q 3 else if q 0 = 7 then q 3 else if q 0 = 17 then q 3 else if q 0 = 18 then q 3 else if q 0 = 9 then 8 + r4 (q 3) else if inF (q 0) 10 14 then 8 + r4 (q 3) else 0
def taQ (q : Nat → Int32) : Int32 := if inF (q 0) 1 6 then q 1 else if q 0 = 14 then q 1 else if q 0 = 16 then q 1 else if q 0 = 8 then 8 + r4 (q 1) else if inF (q 0) 10 13 then 8 + r4 (q 1) else if q 0 = 15 then 8 + r4 (q 1) else 0
def laQ (q : Nat → Int32) : Int32 := if 6 ≤ q 0 then (if q 0 = 6 then 2 else if q 0 = 8 then 2 else if q 0 = 12 then 4 else if q 0 = 13 then 8 else 3) else 1
/-- missGroup -/
def mgF (τ : MS) (i : Int32) : Bool × MS := if mJ τ 2 (ix (i / 4 - i / 4 / 2 * 2)) = i / 4 then (false, τ) else (true, tI (tJ τ 2 (upd (mJ τ 2) (ix (i / 4 - i / 4 / 2 * 2)) (i / 4))) 7 (mI τ 7 + 1))
/-- missLine's second half, at the place p -/
def ml2 (τ : MS) (ln p : Int32) : Bool × MS := (true, tI (tJ (tJ τ 3 (upd (mJ τ 3) (ix p) ln)) 4 (upd (mJ τ 4) (ix p) (mI τ 9))) 8 (mI τ 8 + 1))
/-- missLine behind clock++: l the line, s the set's first place -/
def ml1 (τ : MS) (ln s : Int32) : Bool × MS :=
  if mJ τ 3 (ix s) = ln then (false, tJ τ 4 (upd (mJ τ 4) (ix s) (mI τ 9)))
  else if mJ τ 3 (ix (s + 1)) = ln then (false, tJ τ 4 (upd (mJ τ 4) (ix (s + 1)) (mI τ 9)))
  else if mJ τ 3 (ix s) < 0 then ml2 τ ln s
  else if mJ τ 3 (ix (s + 1)) < 0 then ml2 τ ln (s + 1)
  else if mJ τ 4 (ix (s + 1)) ≤ mJ τ 4 (ix s) then ml2 τ ln (s + 1) else ml2 τ ln s
def mlF (τ : MS) (ad : Int32) : Bool × MS := ml1 (tI τ 9 (mI τ 9 + 1)) (ad / 4) ((ad / 4 - ad / 4 / 2 * 2) * 2)
def ltF (x y : Int32) : Int32 := if x ≤ y then y else x
def puF (τ : MS) (r v : Int32) : MS := if r ≤ 0 then τ else tJ τ 0 (upd (mJ τ 0) (ix r) v)
def adM (τ : MS) (q : Nat → Int32) : Int32 := mJ τ 0 (ix (q 2)) + q 4
/-- compute -/
def cpM (τ : MS) (q : Nat → Int32) : MS :=
  if q 0 = 1 then puF τ (q 1) (mJ τ 0 (ix (q 2)) + q 4)
  else if q 0 = 2 then puF τ (q 1) (mJ τ 0 (ix (q 2)) + mJ τ 0 (ix (q 3)))
  else if q 0 = 3 then puF τ (q 1) (mJ τ 0 (ix (q 2)) - mJ τ 0 (ix (q 3)))
  else if q 0 = 4 then puF τ (q 1) (mJ τ 0 (ix (q 2)) * mJ τ 0 (ix (q 3)))
  else if q 0 = 5 then puF τ (q 1) (if mJ τ 0 (ix (q 3)) ≤ mJ τ 0 (ix (q 2)) then 0 else 1)
  else if q 0 = 6 then puF τ (q 1) (FP.d2i (mF τ 0 (ix (adM τ q))))
  else if q 0 = 7 then tF τ 0 (vf_upd (mF τ 0) (ix (adM τ q)) (FP.i2d (mJ τ 0 (ix (q 3)))))
  else if q 0 = 8 then tF τ 1 (vf_upd (mF τ 1) (m4 (q 1)) (mF τ 0 (ix (adM τ q))))
  else if q 0 = 9 then tF τ 0 (vf_upd (mF τ 0) (ix (adM τ q)) (mF τ 1 (m4 (q 3))))
  else if inF (q 0) 10 13 then tF τ 1 (vf_upd (mF τ 1) (m4 (q 1)) (ocF (q 0) (mF τ 1 (m4 (q 2))) (mF τ 1 (m4 (q 3)))))
  else if q 0 = 14 then puF τ (q 1) (if 0 ≤ Op.cmpValue (FP.dcmp (mF τ 1 (m4 (q 2))) (mF τ 1 (m4 (q 3)))) .g then 0 else 1)
  else if q 0 = 15 then tF τ 1 (vf_upd (mF τ 1) (m4 (q 1)) (FP.i2d (mJ τ 0 (ix (q 2)))))
  else if q 0 = 16 then puF τ (q 1) (FP.d2i (mF τ 1 (m4 (q 2)))) else τ
/-- trouble -/
def tr3 (τ : MS) (q : Nat → Int32) : Int32 := if ovF (ocF (q 0) (mF τ 1 (m4 (q 2))) (mF τ 1 (m4 (q 3)))) then 4 else 0
def tr2 (τ : MS) (q : Nat → Int32) : Int32 := if inF (q 0) 10 13 then (if q 0 = 13 then (if Op.cmpValue (FP.dcmp (mF τ 1 (m4 (q 3))) FP.dconst0) .l = 0 then 4 else tr3 τ q) else tr3 τ q) else 0
def trF (τ : MS) (q : Nat → Int32) : Int32 := if inF (q 0) 6 9 then (if inF (adM τ q) 0 47 then tr2 τ q else 3) else tr2 τ q
def mdl (v : Int32) : Int32 := (v - v / 24 * 24 + 24) - (v - v / 24 * 24 + 24) / 24 * 24
/-- next -/
def jmM (τ : MS) (q : Nat → Int32) : Bool := if mJ τ 0 (ix (q 2)) = mJ τ 0 (ix (q 3)) then (if q 0 = 17 then true else false) else (if q 0 = 17 then false else true)
def nx1 (τ : MS) (w : Bool) : MS := if w then tI (tI τ 6 (b2i w)) 10 (mI τ 10 + 1) else tI τ 6 (b2i w)
def nx2 (τ : MS) (k : Nat) (j : Bool) : MS := if j then (if 3 ≤ mJ τ 5 k then τ else tJ τ 5 (upd (mJ τ 5) k (mJ τ 5 k + 1))) else (if mJ τ 5 k ≤ 0 then τ else tJ τ 5 (upd (mJ τ 5) k (mJ τ 5 k - 1)))
def wrM (τ : MS) (i : Int32) (q : Nat → Int32) : Bool := if mJ τ 5 (ix (i - i / 8 * 8)) ≤ 1 then jmM τ q else !(jmM τ q)
def nxF (τ : MS) (i : Int32) (q : Nat → Int32) : Int32 × MS :=
  if q 0 = 19 then (mdl (q 4), τ) else if 17 ≤ q 0 then
    (if jmM τ q then mdl (q 4) else (i + 1) - (i + 1) / 24 * 24, nx2 (nx1 τ (wrM τ i q)) (ix (i - i / 8 * 8)) (jmM τ q))
  else ((i + 1) - (i + 1) / 24 * 24, τ)
/-- doOne: the access to a line -/
def ma2 (τ : MS) (q : Nat → Int32) : Bool × MS := if inF (q 0) 6 9 then (if trF τ q = 0 then mlF τ (adM τ q) else (false, τ)) else (false, τ)
/-- doOne: the time -/
def tmM (τ : MS) (q : Nat → Int32) (t0 : Int32) (l : Int32) : Int32 :=
  let t1 := ltF (ltF t0 (mJ τ 1 (ix (fiQ q)))) (mJ τ 1 (ix (seQ q)))
  let t2 := if q 0 = 13 then ltF t1 (mI τ 4) else t1
  let t3 := if inF (q 0) 6 9 then ltF t2 (mI τ 5) else t2
  if taQ q ≤ 0 then t3 else ltF t3 (mJ τ 1 (ix (taQ q)) - l + 1)
/-- doOne: what is written of the clock -/
def ck1 (τ : MS) (q : Nat → Int32) (t l more : Int32) : MS :=
  let τ1 := if taQ q ≤ 0 then τ else tJ τ 1 (upd (mJ τ 1) (ix (taQ q)) (t + l))
  let τ2 := if q 0 = 13 then tI τ1 4 (t + 8) else τ1
  if inF (q 0) 6 9 then tI τ2 5 (t + 1 + more) else τ2
def ckM (τ : MS) (q : Nat → Int32) (t l more : Int32) : MS := tI (tI (tI (ck1 τ q t l more) 3 t) 2 (mI (ck1 τ q t l more) 2 + 1)) 6 0
def laM (q : Nat → Int32) (more : Int32) : Int32 := laQ q + (if q 0 = 6 then more else if q 0 = 8 then more else 0)
/-- doOne behind the clock -/
def mdE (τ : MS) (i : Int32) (q : Nat → Int32) : MS := if q 0 = 0 then tI (cpM τ q) 1 1 else tI (nxF (cpM τ q) i q).2 0 (nxF (cpM τ q) i q).1
/-- doOne where there is no trouble; g the group was missing, m the line -/
def mdN (τ : MS) (i : Int32) (q : Nat → Int32) (g : Bool) (ln : Bool) : MS :=
  let more : Int32 := if b2i ln = 0 then 0 else 5
  let t0 := mI τ 3 + 1
  let t1 := if g then t0 + 4 else t0
  let t2 := if mI τ 6 = 0 then t1 else t1 + 2
  mdE (ckM τ q (tmM τ q t2 (laM q more)) (laM q more) more) i q
def mdF (τ : MS) : MS :=
  let i := mI τ 0
  let q := mq τ (ix i)
  let τ1 := (mgF τ i).2
  if 0 < trF τ1 q then tI (tI (ma2 τ1 q).2 11 (trF τ1 q)) 1 1 else mdN (ma2 τ1 q).2 i q (mgF τ i).1 (ma2 τ1 q).1
/-- run's loop -/
def ruM : Nat → MS → Int32 → Int32 → MS
  | 0, τ, _, _ => τ
  | f + 1, τ, b, n => if n ≤ mI τ 2 - b then τ else if mI τ 1 = 0 then ruM f (mdF τ) b n else τ
/-- the reference's state is in range -/
def okM (q : Nat → Int32) : Prop := vp_in (q 0) 20 ∧ vp_in (q 1) 8 ∧ vp_in (q 2) 8 ∧ vp_in (q 3) 8
def MWf (τ : MS) : Prop := vp_in (mI τ 0) 24 ∧ (∀ k, k < 24 → okM (mq τ k)) ∧ (∀ j, j < 48 → fp_fin (mF τ 0 j)) ∧ (∀ j, j < 4 → fp_fin (mF τ 1 j))
/-- and so are the states that the loop goes through -/
def MWr : Nat → MS → Int32 → Int32 → Prop
  | 0, τ, b, n => n ≤ mI τ 2 - b ∨ ¬ mI τ 1 = 0
  | f + 1, τ, b, n => MWf τ ∧ (¬ n ≤ mI τ 2 - b → mI τ 1 = 0 → MWr f (mdF τ) b n)
theorem mq_tI (τ : MS) (k : Nat) (v : Int32) : mq (tI τ k v) = mq τ := rfl
theorem mq_tF (τ : MS) (k : Nat) (f : Nat → UInt64) : mq (tF τ k f) = mq τ := rfl
theorem mq_tJ (τ : MS) (k : Nat) (f : Nat → Int32) (h : k < 6) : mq (tJ τ k f) = mq τ := by
  funext i j
  show (if 6 + j = k then f else mJ τ (6 + j)) i = mJ τ (6 + j) i
  rw [if_neg (by omega)]
theorem inF_t {v l h : Int32} (k : inF v l h = true) : ¬ v < l ∧ ¬ h < v := by
  unfold inF at k
  by_cases h1 : v < l
  · rw [if_pos h1] at k; cases k
  · by_cases h2 : h < v
    · rw [if_neg h1, if_pos h2] at k; cases k
    · exact ⟨h1, h2⟩
theorem inF_in {v h : Int32} {n : Nat} (hn : h.toInt + 1 = n) (k : inF v 0 h = true) : vp_in v n := by
  obtain ⟨h1, h2⟩ := inF_t k
  rw [vp_in_iff]
  rw [Int32.lt_iff_toInt_lt] at h1 h2
  rw [Int32.toInt_zero] at h1
  omega
theorem in1013 {v : Int32} (k : inF v 10 13 = true) : v = 10 ∨ v = 11 ∨ v = 12 ∨ v = 13 := by
  obtain ⟨h1, h2⟩ := inF_t k
  rw [Int32.lt_iff_toInt_lt] at h1 h2
  have a1 : (10 : Int32).toInt = 10 := by decide
  have a2 : (13 : Int32).toInt = 13 := by decide
  have a3 : (11 : Int32).toInt = 11 := by decide
  have a4 : (12 : Int32).toInt = 12 := by decide
  rw [← Int32.toInt_inj, ← Int32.toInt_inj, ← Int32.toInt_inj, ← Int32.toInt_inj, a1, a2, a3, a4]
  omega
theorem r4_in {x : Int32} (h : vp_in x 8) : vp_in (8 + r4 x) 12 := by
  obtain ⟨j, hj, rfl⟩ := vp_in_of h (by decide)
  have : ∀ j, j < 8 → vp_in (8 + r4 (nI j)) 12 := by unfold vp_in; decide
  exact this j hj
theorem in8_12 {x : Int32} (h : vp_in x 8) : vp_in x 12 := by
  rw [vp_in_iff] at h ⊢
  omega
theorem iteP {α : Type} {P : α → Prop} {c : Prop} [Decidable c] {a b : α} (ha : P a) (hb : P b) : P (if c then a else b) := by split <;> assumption
theorem in0_12 : vp_in 0 12 := by unfold vp_in; decide
theorem fi_in {q : Nat → Int32} (h : okM q) : vp_in (fiQ q) 12 := by
  obtain ⟨_, h1, h2, h3⟩ := h
  exact iteP (P := fun x => vp_in x 12) in0_12 (iteP (P := fun x => vp_in x 12) in0_12 (iteP (P := fun x => vp_in x 12) (r4_in h2) (iteP (P := fun x => vp_in x 12) (r4_in h2) (in8_12 h2))))
theorem se_in {q : Nat → Int32} (h : okM q) : vp_in (seQ q) 12 := by
  obtain ⟨_, h1, h2, h3⟩ := h
  exact iteP (P := fun x => vp_in x 12) (in8_12 h3) (iteP (P := fun x => vp_in x 12) (in8_12 h3) (iteP (P := fun x => vp_in x 12) (in8_12 h3) (iteP (P := fun x => vp_in x 12) (in8_12 h3) (iteP (P := fun x => vp_in x 12) (r4_in h3) (iteP (P := fun x => vp_in x 12) (r4_in h3) (in0_12))))))
theorem ta_in {q : Nat → Int32} (h : okM q) : vp_in (taQ q) 12 := by
  obtain ⟨_, h1, h2, h3⟩ := h
  exact iteP (P := fun x => vp_in x 12) (in8_12 h1) (iteP (P := fun x => vp_in x 12) (in8_12 h1) (iteP (P := fun x => vp_in x 12) (in8_12 h1) (iteP (P := fun x => vp_in x 12) (r4_in h1) (iteP (P := fun x => vp_in x 12) (r4_in h1) (iteP (P := fun x => vp_in x 12) (r4_in h1) (in0_12))))))
theorem mg_q (τ : MS) (i : Int32) : mq (mgF τ i).2 = mq τ := by
  unfold mgF
  split
  · rfl
  · rw [mq_tI, mq_tJ _ _ _ (by decide)]
theorem mg_I (τ : MS) (i : Int32) (k : Nat) (h : k ≠ 7) : mI (mgF τ i).2 k = mI τ k := by
  unfold mgF
  split
  · rfl
  · show (if k = 7 then _ else _) = _
    rw [if_neg h]
    rfl
theorem mg_J (τ : MS) (i : Int32) (k : Nat) (h : k ≠ 2) : mJ (mgF τ i).2 k = mJ τ k := by
  unfold mgF
  split
  · rfl
  · show (if k = 2 then _ else _) = _
    rw [if_neg h]
    rfl
theorem mg_F (τ : MS) (i : Int32) : mF (mgF τ i).2 = mF τ := by
  unfold mgF
  split <;> rfl
theorem ml_q (τ : MS) (a : Int32) : mq (mlF τ a).2 = mq τ := by
  unfold mlF ml1 ml2
  repeat' split
  all_goals simp only [mq_tI, mq_tJ _ 3 _ (by decide), mq_tJ _ 4 _ (by decide)]
theorem ml_I (τ : MS) (a : Int32) (k : Nat) (h : k ≠ 8) (h2 : k ≠ 9) : mI (mlF τ a).2 k = mI τ k := by
  unfold mlF ml1 ml2
  repeat' split
  all_goals simp [mI_tI, mI_tJ, h, h2]
theorem ml_J (τ : MS) (a : Int32) (k : Nat) (h : k ≠ 3) (h2 : k ≠ 4) : mJ (mlF τ a).2 k = mJ τ k := by
  unfold mlF ml1 ml2
  repeat' split
  all_goals simp [mJ_tI, mJ_tJ, h, h2]
theorem ml_F (τ : MS) (a : Int32) : mF (mlF τ a).2 = mF τ := by
  unfold mlF ml1 ml2
  repeat' split
  all_goals rfl
theorem ma_q (τ : MS) (q : Nat → Int32) : mq (ma2 τ q).2 = mq τ := by
  unfold ma2
  repeat' split
  all_goals first | rfl | exact ml_q _ _
theorem ma_I (τ : MS) (q : Nat → Int32) (k : Nat) (h : k ≠ 8) (h2 : k ≠ 9) : mI (ma2 τ q).2 k = mI τ k := by
  unfold ma2
  repeat' split
  all_goals first | rfl | exact ml_I _ _ _ h h2
theorem ma_J (τ : MS) (q : Nat → Int32) (k : Nat) (h : k ≠ 3) (h2 : k ≠ 4) : mJ (ma2 τ q).2 k = mJ τ k := by
  unfold ma2
  repeat' split
  all_goals first | rfl | exact ml_J _ _ _ h h2
theorem ma_F (τ : MS) (q : Nat → Int32) : mF (ma2 τ q).2 = mF τ := by
  unfold ma2
  repeat' split
  all_goals first | rfl | exact ml_F _ _
theorem ck_q (τ : MS) (q : Nat → Int32) (t l m : Int32) : mq (ckM τ q t l m) = mq τ := by
  unfold ckM ck1
  dsimp only
  split <;> split <;> split <;> simp only [mq_tI, mq_tJ _ 1 _ (by decide)]
theorem ck_J (τ : MS) (q : Nat → Int32) (t l m : Int32) (k : Nat) (h : k ≠ 1) : mJ (ckM τ q t l m) k = mJ τ k := by
  unfold ckM ck1
  dsimp only
  split <;> split <;> split <;> simp [mJ_tI, mJ_tJ, h]
theorem ck_F (τ : MS) (q : Nat → Int32) (t l m : Int32) : mF (ckM τ q t l m) = mF τ := by
  unfold ckM ck1
  dsimp only
  split <;> split <;> split <;> rfl
theorem pu_q (τ : MS) (r v : Int32) : mq (puF τ r v) = mq τ := by
  unfold puF
  split
  · rfl
  · rw [mq_tJ _ _ _ (by decide)]
theorem pu_J (τ : MS) (r v : Int32) (k : Nat) (h : k ≠ 0) : mJ (puF τ r v) k = mJ τ k := by
  unfold puF
  split <;> simp [mJ_tJ, h]
theorem cp_q (τ : MS) (q : Nat → Int32) : mq (cpM τ q) = mq τ := by
  unfold cpM
  repeat' first | exact pu_q _ _ _ | exact mq_tF _ _ _ | refine iteP (P := fun x => mq x = mq τ) ?_ ?_
  rfl
theorem cp_J (τ : MS) (q : Nat → Int32) (k : Nat) (h : k ≠ 0) : mJ (cpM τ q) k = mJ τ k := by
  unfold cpM
  repeat' first | exact pu_J _ _ _ _ h | exact congrFun (mJ_tF _ _ _) k | refine iteP (P := fun x => mJ x k = mJ τ k) ?_ ?_
  rfl
theorem tr_eq {τ τ' : MS} {q : Nat → Int32} (h0 : mJ τ 0 = mJ τ' 0) (h1 : mF τ 1 = mF τ' 1) : trF τ q = trF τ' q := by
  unfold trF tr2 tr3 adM
  rw [h0, h1]
theorem tJ_self (τ : MS) (k : Nat) : tJ τ k (mJ τ k) = τ := by
  have : va_up τ.2.1 k (mJ τ k) = τ.2.1 := by
    funext j
    unfold va_up
    split
    · rename_i h; subst h; rfl
    · rfl
  unfold tJ
  rw [this]
theorem tI_self (τ : MS) (k : Nat) : tI τ k (mI τ k) = τ := by
  have : va_up τ.1 k (mI τ k) = τ.1 := by
    funext j
    unfold va_up
    split
    · rename_i h; subst h; rfl
    · rfl
  unfold tI
  rw [this]
theorem tI_tI (τ : MS) (k : Nat) (v w : Int32) : tI (tI τ k v) k w = tI τ k w := by
  have : va_up (va_up τ.1 k v) k w = va_up τ.1 k w := by
    funext j
    unfold va_up
    split <;> rfl
  unfold tI
  dsimp only
  rw [this]
theorem tI_comm (τ : MS) {k j : Nat} (v w : Int32) (h : k ≠ j) : tI (tI τ k v) j w = tI (tI τ j w) k v := by
  have : va_up (va_up τ.1 k v) j w = va_up (va_up τ.1 j w) k v := by
    funext x
    unfold va_up
    by_cases h1 : x = j
    · subst h1; simp [Ne.symm h]
    · simp [h1]
  unfold tI
  dsimp only
  rw [this]
theorem mg_form (τ : MS) (i : Int32) : ∃ f v, (mgF τ i).2 = tI (tJ τ 2 f) 7 v := by
  unfold mgF
  split
  · exact ⟨mJ τ 2, mI τ 7, by rw [tJ_self, tI_self]⟩
  · exact ⟨_, _, rfl⟩
theorem MS_ext {a b : MS} (h1 : ∀ k, mI a k = mI b k) (h2 : ∀ k, mJ a k = mJ b k) (h3 : mF a = mF b) : a = b := by
  obtain ⟨a1, a2, a3⟩ := a
  obtain ⟨b1, b2, b3⟩ := b
  have e1 : a1 = b1 := funext h1
  have e2 : a2 = b2 := funext h2
  have e3 : a3 = b3 := h3
  rw [e1, e2, e3]
theorem ma_form (τ : MS) (q : Nat → Int32) : ∃ f g v w, (ma2 τ q).2 = tI (tI (tJ (tJ τ 3 f) 4 g) 8 v) 9 w := by
  refine ⟨mJ (ma2 τ q).2 3, mJ (ma2 τ q).2 4, mI (ma2 τ q).2 8, mI (ma2 τ q).2 9, MS_ext (fun k => ?_) (fun k => ?_) (ma_F τ q)⟩
  · rw [mI_tI, mI_tI]
    by_cases h9 : k = 9
    · rw [if_pos h9, h9]
    · by_cases h8 : k = 8
      · rw [if_neg h9, if_pos h8, h8]
      · rw [if_neg h9, if_neg h8]
        exact ma_I τ q k h8 h9
  · rw [mJ_tI, mJ_tI, mJ_tJ, mJ_tJ]
    by_cases h9 : k = 4
    · rw [if_pos h9, h9]
    · by_cases h8 : k = 3
      · rw [if_neg h9, if_pos h8, h8]
      · rw [if_neg h9, if_neg h8]
        exact ma_J τ q k h8 h9
theorem tr_0 {τ : MS} {q : Nat → Int32} (h : ¬ 0 < trF τ q) : trF τ q = 0 := by
  have : trF τ q = 0 ∨ trF τ q = 3 ∨ trF τ q = 4 := by
    unfold trF tr2 tr3
    repeat' split
    all_goals simp
  rcases this with e | e | e
  · exact e
  · rw [e] at h; exact absurd (by decide) h
  · rw [e] at h; exact absurd (by decide) h
theorem ad_in {τ : MS} {q : Nat → Int32} (hz : trF τ q = 0) (ho : inF (q 0) 6 9 = true) : vp_in (adM τ q) 48 := by
  unfold trF at hz
  rw [if_pos ho] at hz
  by_cases h : inF (adM τ q) 0 47 = true
  · exact inF_in (by decide) h
  · rw [if_neg h] at hz
    exact absurd hz (by decide)
theorem rk_z {τ : MS} {q : Nat → Int32} (hz : trF τ q = 0) (ho : inF (q 0) 10 13 = true) (h1 : ¬ q 0 = 10) (h2 : ¬ q 0 = 11) (h3 : ¬ q 0 = 12) : ¬ Op.cmpValue (FP.dcmp (mF τ 1 (m4 (q 3))) FP.dconst0) .l = 0 := by
  intro k
  have h4 : q 0 = 13 := ((in1013 ho).resolve_left h1).resolve_left h2 |>.resolve_left h3
  unfold trF tr2 at hz
  rw [if_neg (by rw [h4]; decide), if_pos ho, if_pos h4, if_pos k] at hz
  exact absurd hz (by decide)
theorem ls1 {x : Int32} (h : vp_in x 48) : vp_in ((x / 4 - x / 4 / 2 * 2) * 2) 4 := by
  obtain ⟨j, hj, rfl⟩ := vp_in_of h (by decide)
  have : ∀ j, j < 48 → vp_in ((nI j / 4 - nI j / 4 / 2 * 2) * 2) 4 := by unfold vp_in; decide
  exact this j hj
theorem ls2 {x : Int32} (h : vp_in x 48) : vp_in ((x / 4 - x / 4 / 2 * 2) * 2 + 1) 4 := by
  obtain ⟨j, hj, rfl⟩ := vp_in_of h (by decide)
  have : ∀ j, j < 48 → vp_in ((nI j / 4 - nI j / 4 / 2 * 2) * 2 + 1) 4 := by unfold vp_in; decide
  exact this j hj
theorem ls3 {x : Int32} (h : vp_in x 48) : ¬ (x / 4 - x / 4 / 2 * 2) * 2 + 2 ≤ (x / 4 - x / 4 / 2 * 2) * 2 ∧ ¬ (x / 4 - x / 4 / 2 * 2) * 2 + 2 ≤ (x / 4 - x / 4 / 2 * 2) * 2 + 1 ∧ (x / 4 - x / 4 / 2 * 2) * 2 + 2 ≤ (x / 4 - x / 4 / 2 * 2) * 2 + 1 + 1 := by
  obtain ⟨j, hj, rfl⟩ := vp_in_of h (by decide)
  have : ∀ j, j < 48 → ¬ (nI j / 4 - nI j / 4 / 2 * 2) * 2 + 2 ≤ (nI j / 4 - nI j / 4 / 2 * 2) * 2 ∧ ¬ (nI j / 4 - nI j / 4 / 2 * 2) * 2 + 2 ≤ (nI j / 4 - nI j / 4 / 2 * 2) * 2 + 1 ∧ (nI j / 4 - nI j / 4 / 2 * 2) * 2 + 2 ≤ (nI j / 4 - nI j / 4 / 2 * 2) * 2 + 1 + 1 := by decide
  exact this j hj
end MPure
