/-! THE CLASS AS PURE FUNCTIONS. State: scalars, int arrays, double arrays, places of instructions, fields of the 24 instruction objects.
scalars: 0 at, 1 stopped, 2 done, 3 began, 4 dividerFree, 5 memoryFree, 6 afterWrongJump, 7 code notFound, 8 data notFound, 9 uses, 10 wrong
int arrays: 0 wholes, 1 ready, 2 groups, 3 lines, 4 latestUse, 5 counters, 6 leaders, 7 heights, 8 behind; double arrays: 0 cells, 1 fractions; places: 0 program, 1 old (24: null)
fields: 0 op, 1 d, 2 a, 3 b, 4 n, 5 written, 6 firstRead, 7 secondRead -/
section Pure
abbrev CS : Type := (Nat → Int32) × (Nat → Nat → Int32) × (Nat → Nat → UInt64) × (Nat → Nat → Nat) × (Nat → Nat → Int32)
def cI (σ : CS) (k : Nat) : Int32 := σ.1 k
def cJ (σ : CS) (k : Nat) : Nat → Int32 := σ.2.1 k
def cF (σ : CS) (k : Nat) : Nat → UInt64 := σ.2.2.1 k
def cP (σ : CS) (k : Nat) : Nat → Nat := σ.2.2.2.1 k
def cQ (σ : CS) (i : Nat) : Nat → Int32 := σ.2.2.2.2 i
def sI (σ : CS) (k : Nat) (v : Int32) : CS := (va_up σ.1 k v, σ.2)
def sJ (σ : CS) (k : Nat) (f : Nat → Int32) : CS := (σ.1, va_up σ.2.1 k f, σ.2.2)
def sF (σ : CS) (k : Nat) (f : Nat → UInt64) : CS := (σ.1, σ.2.1, va_up σ.2.2.1 k f, σ.2.2.2)
def sP (σ : CS) (k : Nat) (f : Nat → Nat) : CS := (σ.1, σ.2.1, σ.2.2.1, va_up σ.2.2.2.1 k f, σ.2.2.2.2)
def sQ (σ : CS) (i : Nat) (f : Nat → Int32) : CS := (σ.1, σ.2.1, σ.2.2.1, σ.2.2.2.1, va_up σ.2.2.2.2 i f)
def ix (x : Int32) : Nat := x.toNatClampNeg
def tabF (l : List Int32) : Nat → Int32 := fun j => l.getD j 0
def latT : Nat → Int32 := tabF [0, 1, 1, 1, 1, 1, 2, 0, 2, 0, 3, 3, 4, 8, 3, 3, 3, 0, 0, 0]
def wrdT : Nat → Int32 := tabF [0, 1, 1, 1, 1, 1, 1, 0, 2, 0, 2, 2, 2, 2, 1, 2, 1, 0, 0, 0]
def rdaT : Nat → Int32 := tabF [0, 1, 1, 1, 1, 1, 1, 1, 1, 1, 2, 2, 2, 2, 2, 1, 2, 1, 1, 0]
def rdbT : Nat → Int32 := tabF [0, 0, 1, 1, 1, 1, 0, 1, 0, 2, 2, 2, 2, 2, 2, 0, 0, 1, 1, 0]
def b2i (c : Bool) : Int32 := if c then 1 else 0
/-- Instruction.register -/
def regF (kind number : Int32) : Int32 := if kind = 2 then 8 + (number - number / 4 * 4) else if kind = 1 then (if number = 0 then -1 else number) else -1
/-- Instruction.become -/
def becQ (op d a b n : Int32) : Nat → Int32 := fun k => match k with
  | 0 => op
  | 1 => d
  | 2 => a
  | 3 => b
  | 4 => n
  | 5 => regF (wrdT (ix op)) d
  | 6 => regF (rdaT (ix op)) a
  | 7 => regF (rdbT (ix op)) b
  | _ => 0
def memQ (q : Nat → Int32) : Bool := if q 0 < 6 then false else if 9 < q 0 then false else true
def tgtQ (q : Nat → Int32) : Bool := if q 0 < 17 then false else true
def endQ (q : Nat → Int32) : Bool := if q 0 = 0 then true else tgtQ q
/-- Math.floorMod -/
def flm (x y : Int32) : Int32 := if 0 ≤ x ^^^ y then x - x / y * y else if x - x / y * y = 0 then x - x / y * y else x - x / y * y + y
/-- Instruction.readsWhatIsWrittenBy -/
def rwQ (q o : Nat → Int32) : Bool := if o 5 = -1 then false else if q 6 = o 5 then true else if q 7 = o 5 then true else false
def trnQ (q : Nat → Int32) : Bool := if q 0 < 6 then false else if 13 < q 0 then false else true
def bwQ (q e : Nat → Int32) : Bool := if q 5 = -1 then false else if q 5 = e 5 then true else false
/-- Instruction.mustStayBehind -/
def msbQ (q e : Nat → Int32) : Bool := if bwQ q e then true else if rwQ q e then true else if rwQ e q then true else if trnQ q then trnQ e else false
/-- CodeCache.misses -/
def cmF (σ : CS) (g : Int32) : Bool × CS := if cJ σ 2 (ix (g - g / 2 * 2)) = g then (false, σ) else (true, sI (sJ σ 2 (upd (cJ σ 2) (ix (g - g / 2 * 2)) g)) 7 (cI σ 7 + 1))
/-- DataCache.misses -/
def dmF (σ : CS) (ln : Int32) : Bool × CS :=
  if cJ σ 3 (ix ((ln - ln / 2 * 2) * 2)) = ln then (false, sJ (sI σ 9 (cI σ 9 + 1)) 4 (upd (cJ σ 4) (ix ((ln - ln / 2 * 2) * 2)) (cI σ 9 + 1)))
  else if cJ σ 3 (ix ((ln - ln / 2 * 2) * 2 + 1)) = ln then (false, sJ (sI σ 9 (cI σ 9 + 1)) 4 (upd (cJ σ 4) (ix ((ln - ln / 2 * 2) * 2 + 1)) (cI σ 9 + 1)))
  else if cJ σ 4 (ix ((ln - ln / 2 * 2) * 2 + 1)) < cJ σ 4 (ix ((ln - ln / 2 * 2) * 2)) then
    (true, sI (sJ (sJ (sI σ 9 (cI σ 9 + 1)) 3 (upd (cJ σ 3) (ix ((ln - ln / 2 * 2) * 2 + 1)) ln)) 4 (upd (cJ σ 4) (ix ((ln - ln / 2 * 2) * 2 + 1)) (cI σ 9 + 1))) 8 (cI σ 8 + 1))
  else (true, sI (sJ (sJ (sI σ 9 (cI σ 9 + 1)) 3 (upd (cJ σ 3) (ix ((ln - ln / 2 * 2) * 2)) ln)) 4 (upd (cJ σ 4) (ix ((ln - ln / 2 * 2) * 2)) (cI σ 9 + 1))) 8 (cI σ 8 + 1))
def imax (x y : Int32) : Int32 := if x < y then y else x
def imin (x y : Int32) : Int32 := if y < x then y else x
/-- Predictor.guessesWrong -/
def gwW (σ : CS) (pl : Int32) (j : Bool) : Bool := if cJ σ 5 (ix (pl - pl / 8 * 8)) < 2 then j else !j
def gwF (σ : CS) (pl : Int32) (j : Bool) : CS :=
  let σ1 := if j then sJ σ 5 (upd (cJ σ 5) (ix (pl - pl / 8 * 8)) (imin (cJ σ 5 (ix (pl - pl / 8 * 8)) + 1) 3)) else sJ σ 5 (upd (cJ σ 5) (ix (pl - pl / 8 * 8)) (imax (cJ σ 5 (ix (pl - pl / 8 * 8)) - 1) 0))
  if gwW σ pl j then sI σ1 10 (cI σ 10 + 1) else σ1
/-- Clock.readyTime -/
def rtF (σ : CS) (r : Int32) : Int32 := if r = -1 then 0 else cJ σ 1 (ix r)
/-- Clock.beginning -/
def bgF (σ : CS) (q : Nat → Int32) (lat : Int32) (gm : Bool) : Int32 :=
  let t0 := cI σ 3 + 1 + (if b2i gm = 0 then 0 else 4) + (if cI σ 6 = 0 then 0 else 2)
  let t1 := imax (imax t0 (rtF σ (q 6))) (rtF σ (q 7))
  let t2 := if q 0 = 13 then imax t1 (cI σ 4) else t1
  let t3 := if memQ q then imax t2 (cI σ 5) else t2
  imax t3 (rtF σ (q 5) - lat + 1)
/-- Clock.begin -/
def beF (σ : CS) (q : Nat → Int32) (gm lm wj : Bool) : CS :=
  let ld : Int32 := if b2i lm = 0 then 0 else 5
  let lat := latT (ix (q 0)) + ld
  let b := bgF σ q lat gm
  let σ1 := sI (sI σ 3 b) 6 (b2i wj)
  let σ2 := if q 5 = -1 then σ1 else sJ σ1 1 (upd (cJ σ 1) (ix (q 5)) (b + lat))
  let σ3 := if q 0 = 13 then sI σ2 4 (b + 8) else σ2
  if memQ q then sI σ3 5 (b + 1 + ld) else σ3
/-- putWhole -/
def pwF (σ : CS) (r v : Int32) : CS := if r = 0 then σ else sJ σ 0 (upd (cJ σ 0) (ix r) v)
abbrev m4 (x : Int32) : Nat := ix (x - x / 4 * 4)
/-- moveCell: what it does to the cells and registers before the cache is asked -/
def mvF (σ : CS) (q : Nat → Int32) (ad : Int32) : CS :=
  if q 0 = 6 then pwF σ (q 1) (FP.d2i (cF σ 0 (ix ad)))
  else if q 0 = 7 then sF σ 0 (vf_upd (cF σ 0) (ix ad) (FP.i2d (cJ σ 0 (ix (q 3)))))
  else if q 0 = 8 then sF σ 1 (vf_upd (cF σ 1) (m4 (q 1)) (cF σ 0 (ix ad)))
  else sF σ 0 (vf_upd (cF σ 0) (ix ad) (cF σ 1 (m4 (q 3))))
def adF (σ : CS) (q : Nat → Int32) : Int32 := cJ σ 0 (ix (q 2)) + q 4
def badA (ad : Int32) : Bool := if ad < 0 then true else if ad < 48 then false else true
/-- computedWhole -/
def cwF (σ : CS) (q : Nat → Int32) : Int32 :=
  if q 0 = 1 then cJ σ 0 (ix (q 2)) + q 4 else if q 0 = 2 then cJ σ 0 (ix (q 2)) + cJ σ 0 (ix (q 3)) else if q 0 = 3 then cJ σ 0 (ix (q 2)) - cJ σ 0 (ix (q 3)) else if q 0 = 4 then cJ σ 0 (ix (q 2)) * cJ σ 0 (ix (q 3))
  else if cJ σ 0 (ix (q 3)) ≤ cJ σ 0 (ix (q 2)) then 0 else 1
def lim9 : UInt64 := 4741671816366391296
def lim9m : UInt64 := 13965043853221167104
/-- quotient and outcomeOf: whether they throw; what they answer -/
def dzF (op : Int32) (y : UInt64) : Bool := if op = 10 then false else if op = 11 then false else if op = 12 then false else if Op.cmpValue (FP.dcmp y FP.dconst0) .l = 0 then true else false
def ocF (op : Int32) (x y : UInt64) : UInt64 := if op = 10 then FP.dadd x y else if op = 11 then FP.dsub x y else if op = 12 then FP.dmul x y else FP.ddiv x y
def ovF (r : UInt64) : Bool := if 0 < Op.cmpValue (FP.dcmp r lim9) .l then true else if 0 ≤ Op.cmpValue (FP.dcmp r lim9m) .g then false else true
/-- computedFraction throws -/
def cfT (op : Int32) (x y : UInt64) : Bool := if dzF op y then true else ovF (ocF op x y)
/-- compute throws -/
def cpT (σ : CS) (q : Nat → Int32) : Bool := if 5 < q 0 then (if q 0 = 14 then false else if q 0 = 15 then false else if q 0 = 16 then false else cfT (q 0) (cF σ 1 (m4 (q 2))) (cF σ 1 (m4 (q 3)))) else false
def cpF (σ : CS) (q : Nat → Int32) : CS :=
  if 5 < q 0 then
    (if q 0 = 14 then pwF σ (q 1) (if 0 ≤ Op.cmpValue (FP.dcmp (cF σ 1 (m4 (q 2))) (cF σ 1 (m4 (q 3)))) .g then 0 else 1)
    else if q 0 = 15 then sF σ 1 (vf_upd (cF σ 1) (m4 (q 1)) (FP.i2d (cJ σ 0 (ix (q 2)))))
    else if q 0 = 16 then pwF σ (q 1) (FP.d2i (cF σ 1 (m4 (q 2))))
    else sF σ 1 (vf_upd (cF σ 1) (m4 (q 1)) (ocF (q 0) (cF σ 1 (m4 (q 2))) (cF σ 1 (m4 (q 3))))))
  else pwF σ (q 1) (cwF σ q)
/-- jumpIsDue -/
def jdF (σ : CS) (q : Nat → Int32) : Bool :=
  if q 0 = 17 then (if cJ σ 0 (ix (q 2)) = cJ σ 0 (ix (q 3)) then true else false) else if q 0 = 18 then (if cJ σ 0 (ix (q 2)) = cJ σ 0 (ix (q 3)) then false else true) else true
/-- the end of doOne -/
def dnF (σ : CS) (q : Nat → Int32) (gm lm wr jp : Bool) : CS :=
  let σ1 := beF σ q gm lm wr
  let σ2 := sI σ1 2 (cI σ1 2 + 1)
  if cI σ1 1 = 0 then sI σ2 0 (if jp then flm (q 4) 24 else (cI σ1 0 + 1) - (cI σ1 0 + 1) / 24 * 24) else σ2
/-- doOne: 0, or what it throws (3 an index, 4 arithmetic) -/
def doT (σ : CS) (q : Nat → Int32) : Nat := if memQ q then (if badA (adF σ q) then 3 else 0) else if tgtQ q then 0 else if q 0 = 0 then 0 else if cpT σ q then 4 else 0
def doQ (σ : CS) : Nat → Int32 := cQ (cmF σ (cI σ 0 / 4)).2 (cP σ 0 (ix (cI σ 0)))
def doG (σ : CS) (q : Nat → Int32) (gm : Bool) : CS :=
  if memQ q then (if badA (adF σ q) then sI σ 1 1 else dnF (dmF (mvF σ q (adF σ q)) (adF σ q / 4)).2 q gm (dmF (mvF σ q (adF σ q)) (adF σ q / 4)).1 false false)
  else if tgtQ q then (if q 0 = 19 then dnF σ q gm false false (jdF σ q) else dnF (gwF σ (cI σ 0) (jdF σ q)) q gm false (gwW σ (cI σ 0) (jdF σ q)) (jdF σ q))
  else if q 0 = 0 then dnF (sI σ 1 1) q gm false false false
  else if cpT σ q then sI σ 1 1 else dnF (cpF σ q) q gm false false false
def doF (σ : CS) : Nat × CS := (doT (cmF σ (cI σ 0 / 4)).2 (doQ σ), doG (cmF σ (cI σ 0 / 4)).2 (doQ σ) (cmF σ (cI σ 0 / 4)).1)
/-- run's loop, with so much fuel -/
def ruF : Nat → CS → Int32 → Int32 → Nat × Int32 × CS
  | 0, σ, k, _ => (0, k, σ)
  | f + 1, σ, k, n => if n ≤ k then (0, k, σ) else if cI σ 1 = 0 then (if (doF σ).1 = 0 then ruF f (doF σ).2 (k + 1) n else ((doF σ).1, k, (doF σ).2)) else (0, k, σ)
/-- refuseOutside throws -/
def badR (n g : Int32) : Bool := if n < 0 then true else if n ≤ g then false else true
def badC (i o d a b : Int32) : Bool := if badR i 23 then true else if badR o 19 then true else if badR d 7 then true else if badR a 7 then true else badR b 7
def badV (v : UInt64) : Bool := if Op.cmpValue (FP.dcmp v 13920209183539462144) .l < 0 then true else if 0 < Op.cmpValue (FP.dcmp v 4696837146684686336) .g then true else false
def toldF (q : Nat → Int32) (w : Int32) : Int32 := if w = 0 then q 0 else if w = 1 then q 1 else if w = 2 then q 2 else if w = 3 then q 3 else q 4
def cntF (σ : CS) (w : Int32) : Int32 :=
  if ¬ w < 10 ∧ ¬ 18 ≤ w then cJ σ 1 (ix (w - 10)) else if ¬ w < 20 ∧ ¬ 24 ≤ w then cJ σ 1 (ix (8 + w - 20)) else
  if w = 0 then cI σ 0 else if w = 1 then (if cI σ 1 = 0 then 0 else 1) else if w = 2 then cI σ 2 else if w = 3 then cI σ 3 else if w = 4 then cI σ 7 else if w = 5 then cI σ 8 else if w = 6 then cI σ 10 else -2
/-- an instruction's fields are in range -/
def okQ (q : Nat → Int32) : Prop := vp_in (q 0) 20 ∧ vp_in (q 1) 8 ∧ vp_in (q 2) 8 ∧ vp_in (q 3) 8 ∧ (q 5 = -1 ∨ vp_in (q 5) 12) ∧ (q 6 = -1 ∨ vp_in (q 6) 12) ∧ (q 7 = -1 ∨ vp_in (q 7) 12)
theorem cJ_sI (σ : CS) (k : Nat) (v : Int32) : cJ (sI σ k v) = cJ σ := rfl
theorem cF_sI (σ : CS) (k : Nat) (v : Int32) : cF (sI σ k v) = cF σ := rfl
theorem cP_sI (σ : CS) (k : Nat) (v : Int32) : cP (sI σ k v) = cP σ := rfl
theorem cQ_sI (σ : CS) (k : Nat) (v : Int32) : cQ (sI σ k v) = cQ σ := rfl
theorem cI_sJ (σ : CS) (k : Nat) (f : Nat → Int32) : cI (sJ σ k f) = cI σ := rfl
theorem cF_sJ (σ : CS) (k : Nat) (f : Nat → Int32) : cF (sJ σ k f) = cF σ := rfl
theorem cP_sJ (σ : CS) (k : Nat) (f : Nat → Int32) : cP (sJ σ k f) = cP σ := rfl
theorem cQ_sJ (σ : CS) (k : Nat) (f : Nat → Int32) : cQ (sJ σ k f) = cQ σ := rfl
theorem cI_sF (σ : CS) (k : Nat) (f : Nat → UInt64) : cI (sF σ k f) = cI σ := rfl
theorem cJ_sF (σ : CS) (k : Nat) (f : Nat → UInt64) : cJ (sF σ k f) = cJ σ := rfl
theorem cP_sF (σ : CS) (k : Nat) (f : Nat → UInt64) : cP (sF σ k f) = cP σ := rfl
theorem cQ_sF (σ : CS) (k : Nat) (f : Nat → UInt64) : cQ (sF σ k f) = cQ σ := rfl
theorem cI_sP (σ : CS) (k : Nat) (f : Nat → Nat) : cI (sP σ k f) = cI σ := rfl
theorem cJ_sP (σ : CS) (k : Nat) (f : Nat → Nat) : cJ (sP σ k f) = cJ σ := rfl
theorem cF_sP (σ : CS) (k : Nat) (f : Nat → Nat) : cF (sP σ k f) = cF σ := rfl
theorem cQ_sP (σ : CS) (k : Nat) (f : Nat → Nat) : cQ (sP σ k f) = cQ σ := rfl
theorem cI_sI (σ : CS) (k : Nat) (v : Int32) (j : Nat) : cI (sI σ k v) j = if j = k then v else cI σ j := rfl
theorem cJ_sJ (σ : CS) (k : Nat) (f : Nat → Int32) (j : Nat) : cJ (sJ σ k f) j = if j = k then f else cJ σ j := rfl
theorem cF_sF (σ : CS) (k : Nat) (f : Nat → UInt64) (j : Nat) : cF (sF σ k f) j = if j = k then f else cF σ j := rfl
theorem cP_sP (σ : CS) (k : Nat) (f : Nat → Nat) (j : Nat) : cP (sP σ k f) j = if j = k then f else cP σ j := rfl
/-- the state is in range: the place, the program, the instructions; doubles are finite -/
def Wf (σ : CS) : Prop := vp_in (cI σ 0) 24 ∧ (∀ i, i < 24 → cP σ 0 i < 24) ∧ (∀ i, i < 24 → okQ (cQ σ i)) ∧ (∀ j, j < 48 → fp_fin (cF σ 0 j)) ∧ (∀ j, j < 4 → fp_fin (cF σ 1 j))
theorem cmF_Q (σ : CS) (g : Int32) : cQ (cmF σ g).2 = cQ σ := by unfold cmF; split <;> rfl
theorem cmF_F (σ : CS) (g : Int32) : cF (cmF σ g).2 = cF σ := by unfold cmF; split <;> rfl
theorem dmF_Q (σ : CS) (g : Int32) : cQ (dmF σ g).2 = cQ σ := by unfold dmF; split; rfl; split; rfl; split <;> rfl
theorem pwF_Q (σ : CS) (r v : Int32) : cQ (pwF σ r v) = cQ σ := by unfold pwF; split <;> rfl
theorem mvF_Q (σ : CS) (q : Nat → Int32) (a : Int32) : cQ (mvF σ q a) = cQ σ := by
  unfold mvF
  split
  · exact pwF_Q _ _ _
  · split
    · rfl
    · split <;> rfl
theorem gwF_Q (σ : CS) (x : Int32) (j : Bool) : cQ (gwF σ x j) = cQ σ := by
  unfold gwF
  cases j <;> simp <;> split <;> rfl
theorem cpF_Q (σ : CS) (q : Nat → Int32) : cQ (cpF σ q) = cQ σ := by
  unfold cpF
  split
  · split
    · exact pwF_Q _ _ _
    · split
      · rfl
      · split
        · exact pwF_Q _ _ _
        · rfl
  · exact pwF_Q _ _ _
theorem beF_Q (σ : CS) (q : Nat → Int32) (a b c : Bool) : cQ (beF σ q a b c) = cQ σ := by
  unfold beF
  dsimp only
  split <;> split <;> split <;> rfl
end Pure
