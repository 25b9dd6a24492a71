/-! THE CLASS AS PURE FUNCTIONS. State: scalars, int arrays, double arrays, places of instructions, fields of the 24 instruction objects.
scalars: 0 at, 1 stopped, 2 done, 3 began, 4 dividerFree, 5 memoryFree, 6 afterWrongJump, 7 code notFound, 8 data notFound, 9 uses, 10 wrong
int arrays: 0 wholes, 1 ready, 2 groups, 3 lines, 4 latestUse, 5 counters, 6 leaders, 7 heights, 8 behind; double arrays: 0 cells, 1 fractions; places: 0 program, 1 old (24: null)
fields: 0 op, 1 d, 2 a, 3 b, 4 n, 5 written, 6 firstRead, 7 secondRead -/
section Pure
abbrev CS : Type := (Nat → Int32) × (Nat → Nat → Int32) × (Nat → Nat → UInt64) × (Nat → Nat → Nat) × (Nat → Nat → Int32)
def cI (σ : CS) (k : Nat) : Int32 := σ.1 k
def cJ (σ : CS) (k : Nat) : Nat → Int32 := σ.2.1 k
def cF (σ : CS) (k : Nat) : Nat → UInt64 := σ.2.2.1 k
def cP (σ : CS) (k : Nat) : Nat → Nat := σ.2.2.2.1 k
def cQ (σ : CS) (i : Nat) : Nat → Int32 := σ.2.2.2.2 i
def sI (σ : CS) (k : Nat) (v : Int32) : CS := (va_up σ.1 k v, σ.2)
def sJ (σ : CS) (k : Nat) (f : Nat → Int32) : CS := (σ.1, va_up σ.2.1 k f, σ.2.2)
def sF (σ : CS) (k : Nat) (f : Nat → UInt64) : CS := (σ.1, σ.2.1, va_up σ.2.2.1 k f, σ.2.2.2)
def sP (σ : CS) (k : Nat) (f : Nat → Nat) : CS := (σ.1, σ.2.1, σ.2.2.1, va_up σ.2.2.2.1 k f, σ.2.2.2.2)
def sQ (σ : CS) (i : Nat) (f : Nat → Int32) : CS := (σ.1, σ.2.1, σ.2.2.1, σ.2.2.2.1, va_up σ.2.2.2.2 i f)
def ix (x : Int32) : Nat := x.toNatClampNeg
def tabF (l : List Int32) : Nat → Int32 := fun j => l.getD j 0
def latT : Nat → Int32 := tabF [0, 1, 1, 1, 1, 1, 2, 0, 2, 0, 3, 3, 4, 8, 3, 3, 3, 0, 0, 0]
def wrdT : Nat → Int32 := tabF [0, 1, 1, 1, 1, 1, 1, 0, 2, 0, 2, 2, 2, 2, 1, 2, 1, 0, 0, 0]
def rdaT : Nat → Int32 := tabF [0, 1, 1, 1, 1, 1, 1, 1, 1, 1, 2, 2, 2, 2, 2, 1, 2, 1, 1, 0]
def rdbT : Nat → Int32 := tabF [0, 0, 1, 1, 1, 1, 0, 1, 0, 2, 2, 2, 2, 2, 2, 0, 0, 1, 1, 0]
def b2i (c : Bool) : Int32 := if c then 1 else 0
/-- Instruction.register -/
def regF (kind number : Int32) : Int32 := if kind = 2 then 8 + (number - number / 4 * 4) else if kind = 1 then (if number = 0 then -1 else number) else -1
/-- Instruction.become -/
def becQ (op d a b n : Int32) : Nat → Int32 := fun k => match k with
  | 0 => op
  | 1 => d
  | 2 => a
  | 3 => b
  | 4 => n
  | 5 => regF (wrdT (ix op)) d
  | 6 => regF (rdaT (ix op)) a
  | 7 => regF (rdbT (ix op)) b
  | _ => 0
def memQ (q : Nat → Int32) : Bool := decide (6 ≤ q 0) && decide (q 0 ≤ 9)
def tgtQ (q : Nat → Int32) : Bool := decide (17 ≤ q 0)
/-- Math.floorMod -/
def flm (x y : Int32) : Int32 := if x ^^^ y < 0 then (if x - x / y * y = 0 then x - x / y * y else x - x / y * y + y) else x - x / y * y
/-- Instruction.readsWhatIsWrittenBy -/
def rwQ (q o : Nat → Int32) : Bool := !decide (o 5 = -1) && (decide (q 6 = o 5) || decide (q 7 = o 5))
def trnQ (q : Nat → Int32) : Bool := decide (6 ≤ q 0) && decide (q 0 ≤ 13)
/-- Instruction.mustStayBehind -/
def msbQ (q e : Nat → Int32) : Bool := (!decide (q 5 = -1) && decide (q 5 = e 5)) || rwQ q e || rwQ e q || (trnQ q && trnQ e)
/-- CodeCache.misses -/
def cmF (σ : CS) (g : Int32) : Int32 × CS := if cJ σ 2 (ix (g - g / 2 * 2)) = g then (0, σ) else (1, sI (sJ σ 2 (upd (cJ σ 2) (ix (g - g / 2 * 2)) g)) 7 (cI σ 7 + 1))
/-- DataCache.misses -/
def dmF (σ : CS) (ln : Int32) : Int32 × CS :=
  let a := (ln - ln / 2 * 2) * 2
  let u := cI σ 9 + 1
  let σ := sI σ 9 u
  if cJ σ 3 (ix a) = ln then (0, sJ σ 4 (upd (cJ σ 4) (ix a) u))
  else if cJ σ 3 (ix (a + 1)) = ln then (0, sJ σ 4 (upd (cJ σ 4) (ix (a + 1)) u))
  else
    let p := if cJ σ 4 (ix a) ≤ cJ σ 4 (ix (a + 1)) then a else a + 1
    (1, sI (sJ (sJ σ 3 (upd (cJ σ 3) (ix p) ln)) 4 (upd (cJ σ 4) (ix p) u)) 8 (cI σ 8 + 1))
def imax (x y : Int32) : Int32 := if x < y then y else x
def imin (x y : Int32) : Int32 := if y < x then y else x
/-- Predictor.guessesWrong -/
def gwF (σ : CS) (pl j : Int32) : Int32 × CS :=
  let o := ix (pl - pl / 8 * 8)
  let w := b2i (decide (2 ≤ cJ σ 5 o) != decide (j ≠ 0))
  let σ1 := sJ σ 5 (upd (cJ σ 5) o (if j = 0 then imax (cJ σ 5 o - 1) 0 else imin (cJ σ 5 o + 1) 3))
  (w, if w = 0 then σ1 else sI σ1 10 (cI σ1 10 + 1))
/-- Clock.readyTime -/
def rtF (σ : CS) (r : Int32) : Int32 := if r = -1 then 0 else cJ σ 1 (ix r)
/-- Clock.beginning -/
def bgF (σ : CS) (q : Nat → Int32) (lat gm : Int32) : Int32 :=
  let t := cI σ 3 + 1 + (if gm = 0 then 0 else 4) + (if cI σ 6 = 0 then 0 else 2)
  let t := imax t (rtF σ (q 6))
  let t := imax t (rtF σ (q 7))
  let t := if q 0 = 13 then imax t (cI σ 4) else t
  let t := if memQ q then imax t (cI σ 5) else t
  imax t (rtF σ (q 5) - lat + 1)
/-- Clock.begin -/
def beF (σ : CS) (q : Nat → Int32) (gm lm wj : Int32) : CS :=
  let ld : Int32 := if lm = 0 then 0 else 5
  let lat := latT (ix (q 0)) + ld
  let b := bgF σ q lat gm
  let σ := sI (sI σ 3 b) 6 wj
  let σ := if q 5 = -1 then σ else sJ σ 1 (upd (cJ σ 1) (ix (q 5)) (b + lat))
  let σ := if q 0 = 13 then sI σ 4 (b + 8) else σ
  if memQ q then sI σ 5 (b + 1 + ld) else σ
/-- putWhole -/
def pwF (σ : CS) (r v : Int32) : CS := if r = 0 then σ else sJ σ 0 (upd (cJ σ 0) (ix r) v)
def m4 (x : Int32) : Nat := ix (x - x / 4 * 4)
/-- moveCell: 3 where it throws; whether the line was missing -/
def mcF (σ : CS) (q : Nat → Int32) : Nat × Int32 × CS :=
  let ad := cJ σ 0 (ix (q 2)) + q 4
  if ad < 0 then (3, 0, sI σ 1 1) else if 48 ≤ ad then (3, 0, sI σ 1 1) else
  let σ := if q 0 = 6 then pwF σ (q 1) (FP.d2i (cF σ 0 (ix ad)))
    else if q 0 = 7 then sF σ 0 (vf_upd (cF σ 0) (ix ad) (FP.i2d (cJ σ 0 (ix (q 3)))))
    else if q 0 = 8 then sF σ 1 (vf_upd (cF σ 1) (m4 (q 1)) (cF σ 0 (ix ad)))
    else sF σ 0 (vf_upd (cF σ 0) (ix ad) (cF σ 1 (m4 (q 3))))
  (0, dmF σ (ad / 4))
/-- computedWhole -/
def cwF (σ : CS) (q : Nat → Int32) : Int32 :=
  let x := cJ σ 0 (ix (q 2))
  let y := cJ σ 0 (ix (q 3))
  if q 0 = 1 then x + q 4 else if q 0 = 2 then x + y else if q 0 = 3 then x - y else if q 0 = 4 then x * y else if x < y then 1 else 0
def dlt (x y : UInt64) : Bool := decide (FP.dcmp x y = some .lt)
def dgt (x y : UInt64) : Bool := decide (FP.dcmp x y = some .gt)
def deq (x y : UInt64) : Bool := decide (FP.dcmp x y = some .eq)
def lim9 : UInt64 := 0x41cdcd6500000000
def lim9m : UInt64 := 0xc1cdcd6500000000
/-- outcomeOf; none: division by zero -/
def ocF (op : Int32) (x y : UInt64) : Option UInt64 :=
  if op = 10 then some (FP.dadd x y) else if op = 11 then some (FP.dsub x y) else if op = 12 then some (FP.dmul x y) else if deq y FP.dconst0 then none else some (FP.ddiv x y)
/-- computedFraction -/
def cfF (op : Int32) (x y : UInt64) : Option UInt64 := match ocF op x y with
  | none => none
  | some r => if dgt r lim9 then none else if dlt r lim9m then none else some r
/-- compute: 4 where it throws -/
def cpF (σ : CS) (q : Nat → Int32) : Nat × CS :=
  if q 0 ≤ 5 then (0, pwF σ (q 1) (cwF σ q)) else
  let x := cF σ 1 (m4 (q 2))
  let y := cF σ 1 (m4 (q 3))
  if q 0 = 14 then (0, pwF σ (q 1) (if dlt x y then 1 else 0))
  else if q 0 = 15 then (0, sF σ 1 (vf_upd (cF σ 1) (m4 (q 1)) (FP.i2d (cJ σ 0 (ix (q 2))))))
  else if q 0 = 16 then (0, pwF σ (q 1) (FP.d2i x))
  else match cfF (q 0) x y with
    | none => (4, sI σ 1 1)
    | some r => (0, sF σ 1 (vf_upd (cF σ 1) (m4 (q 1)) r))
/-- jumpIsDue -/
def jdF (σ : CS) (q : Nat → Int32) : Bool :=
  let e := decide (cJ σ 0 (ix (q 2)) = cJ σ 0 (ix (q 3)))
  if q 0 = 17 then e else if q 0 = 18 then !e else true
/-- doOne: 0, or what it throws -/
def doF (σ : CS) : Nat × CS :=
  let q := cQ σ (cP σ 0 (ix (cI σ 0)))
  let (gm, σ) := cmF σ (cI σ 0 / 4)
  let fin := fun (σ : CS) (lm wr : Int32) (jp : Bool) =>
    let σ := beF σ q gm lm wr
    let σ := sI σ 2 (cI σ 2 + 1)
    if cI σ 1 = 0 then sI σ 0 (if jp then flm (q 4) 24 else (cI σ 0 + 1) - (cI σ 0 + 1) / 24 * 24) else σ
  if memQ q then match mcF σ q with
    | (0, lm, σ) => (0, fin σ lm 0 false)
    | (k, _, σ) => (k, σ)
  else if tgtQ q then
    let j := jdF σ q
    if q 0 = 19 then (0, fin σ 0 0 j) else
    let (w, σ) := gwF σ (cI σ 0) (b2i j)
    (0, fin σ 0 w j)
  else if q 0 = 0 then (0, fin (sI σ 1 1) 0 0 false)
  else match cpF σ q with
    | (0, σ) => (0, fin σ 0 0 false)
    | (k, σ) => (k, σ)
/-- run's loop, with so much fuel -/
def ruF : Nat → CS → Int32 → Int32 → Nat × Int32 × CS
  | 0, σ, k, _ => (0, k, σ)
  | f + 1, σ, k, n => if k < n then (if cI σ 1 = 0 then match doF σ with
      | (0, σ) => ruF f σ (k + 1) n
      | (e, σ) => (e, k, σ) else (0, k, σ)) else (0, k, σ)
end Pure
