section Sched
/-! SCHEDULING, PURE: shared by the class and the reference -/
def hIn (T : Nat → Nat → Bool) (L : Nat → Nat → Int32) (i : Nat) (h : Nat → Int32) : Nat → Nat → Int32
  | 0 => h
  | n + 1 => if T i (i + 1 + n) then upd (hIn T L i h n) i (imax (hIn T L i h n i) (hIn T L i h n (i + 1 + n) + L i (i + 1 + n))) else hIn T L i h n
def hOut (T : Nat → Nat → Bool) (L : Nat → Nat → Int32) (e : Nat) (h : Nat → Int32) : Nat → Nat → Int32
  | 0 => h
  | n + 1 => hIn T L (e - 1 - n) (upd (hOut T L e h n) (e - 1 - n) 0) n
/-- the places that one must stay behind, as bits -/
def sh1 (i : Nat) : Int32 := 1 <<< (nI i &&& 31)
def bIn (T : Nat → Nat → Bool) (i : Nat) (b : Nat → Int32) : Nat → Nat → Int32
  | 0 => b
  | n + 1 => if T i (i + 1 + n) then upd (bIn T i b n) (i + 1 + n) (bIn T i b n (i + 1 + n) ||| sh1 i) else bIn T i b n
def bOut (T : Nat → Nat → Bool) (e : Nat) (b : Nat → Int32) : Nat → Nat → Int32
  | 0 => b
  | n + 1 => bIn T (e - 1 - n) (upd (bOut T e b n) (e - 1 - n) 0) n
/-- the best of a, a + 1, .. -/
def bst (fr : Nat → Bool) (h : Nat → Int32) (a : Nat) : Nat → Option Nat
  | 0 => none
  | n + 1 => if fr (a + n) then (match bst fr h a n with | none => some (a + n) | some b => if h (a + n) ≤ h b then some b else some (a + n)) else bst fr h a n
/-- the reference: one may be placed -/
def frA (pz : Nat → Int32) (T : Nat → Nat → Bool) (a c : Nat) : Nat → Bool
  | 0 => true
  | n + 1 => if frA pz T a c n then (if pz (a + n) = 0 then !T (a + n) c else true) else false
def fre (pz : Nat → Int32) (T : Nat → Nat → Bool) (a c : Nat) : Bool := if pz c = 0 then frA pz T a c (c - a) else false
def updN (f : Nat → Nat) (k v : Nat) : Nat → Nat := fun j => if j = k then v else f j
/-- the reference: the block's places, one after the other: placed, order, moved -/
def pkM (T : Nat → Nat → Bool) (h : Nat → Int32) (a e : Nat) (pz : Nat → Int32) : Nat := (bst (fre pz T a) h a (e - a)).getD a
def bkM (T : Nat → Nat → Bool) (h : Nat → Int32) (a e : Nat) (S : (Nat → Int32) × (Nat → Nat) × Nat) : Nat → (Nat → Int32) × (Nat → Nat) × Nat
  | 0 => S
  | n + 1 => (upd (bkM T h a e S n).1 (pkM T h a e (bkM T h a e S n).1) 1, updN (bkM T h a e S n).2.1 (a + n) (pkM T h a e (bkM T h a e S n).1), (bkM T h a e S n).2.2 + if pkM T h a e (bkM T h a e S n).1 = a + n then 0 else 1)
/-- the class: one may be placed; left, order, moved -/
def may (bh : Nat → Int32) (lf : Int32) (i : Nat) : Bool := if lf &&& sh1 i = 0 then false else if lf &&& bh i = 0 then true else false
def pkC (bh h : Nat → Int32) (a e : Nat) (lf : Int32) : Nat := (bst (may bh lf) h a (e - a)).getD a
def bkC (bh h : Nat → Int32) (a e : Nat) (S : Int32 × (Nat → Nat) × Nat) : Nat → Int32 × (Nat → Nat) × Nat
  | 0 => S
  | n + 1 => ((bkC bh h a e S n).1 &&& (sh1 (pkC bh h a e (bkC bh h a e S n).1) ^^^ (-1)), updN (bkC bh h a e S n).2.1 (a + n) (pkC bh h a e (bkC bh h a e S n).1), (bkC bh h a e S n).2.2 + if pkC bh h a e (bkC bh h a e S n).1 = a + n then 0 else 1)
/-- the bits a .. a + n - 1 -/
def lfB (a : Nat) : Nat → Int32
  | 0 => 0
  | n + 1 => lfB a n ||| sh1 (a + n)
def bt (x : Int32) (k : Nat) : Bool := x.toBitVec.getLsbD k
theorem bt_or (x y : Int32) (k : Nat) : bt (x ||| y) k = (bt x k || bt y k) := by unfold bt; rw [Int32.toBitVec_or, BitVec.getLsbD_or]
theorem bt_and (x y : Int32) (k : Nat) : bt (x &&& y) k = (bt x k && bt y k) := by unfold bt; rw [Int32.toBitVec_and, BitVec.getLsbD_and]
theorem bt_xor (x y : Int32) (k : Nat) : bt (x ^^^ y) k = (bt x k ^^ bt y k) := by unfold bt; rw [Int32.toBitVec_xor, BitVec.getLsbD_xor]
theorem bt_zero (k : Nat) : bt 0 k = false := by
  unfold bt
  rw [show (0 : Int32).toBitVec = 0#32 from rfl]
  exact BitVec.getLsbD_zero
theorem bt_m1 : ∀ k, k < 32 → bt (-1) k = true := by unfold bt; decide
theorem bt_sh : ∀ i, i < 24 → ∀ k, k < 32 → bt (sh1 i) k = decide (k = i) := by unfold bt sh1 nI; decide +kernel
theorem bt_eq0 {x : Int32} : x = 0 ↔ ∀ k, k < 32 → bt x k = false := by
  constructor
  · rintro rfl k _; exact bt_zero k
  · intro h
    have : x.toBitVec = (0 : Int32).toBitVec := BitVec.eq_of_getLsbD_eq (fun k hk => by
      have := h k hk
      unfold bt at this
      rw [this]
      exact (bt_zero k).symm)
    exact Int32.toBitVec_inj.mp this
theorem bt_sh_or {i : Nat} (hi : i < 24) {x : Int32} : (x &&& sh1 i = 0) ↔ bt x i = false := by
  rw [bt_eq0]
  constructor
  · intro h
    have := h i (by omega)
    rw [bt_and, bt_sh i hi i (by omega)] at this
    simpa using this
  · intro h k hk
    rw [bt_and, bt_sh i hi k hk]
    by_cases hki : k = i
    · subst hki; simp [h]
    · simp [hki]
theorem bt_lf (a : Nat) : ∀ n, a + n ≤ 24 → ∀ k, k < 32 → bt (lfB a n) k = decide (a ≤ k ∧ k < a + n) := by
  intro n
  induction n with
  | zero => intro _ k hk; show bt 0 k = _; rw [bt_zero, decide_eq_false (by omega)]
  | succ n ih =>
    intro h k hk
    show bt (lfB a n ||| sh1 (a + n)) k = _
    rw [bt_or, ih (by omega) k hk, bt_sh (a + n) (by omega) k hk, ← Bool.decide_or]
    apply decide_eq_decide.mpr
    omega
theorem bt_out {x : Int32} {k : Nat} (h : 32 ≤ k) : bt x k = false := by unfold bt; exact BitVec.getLsbD_of_ge _ _ h
/-- what behind holds after the inner loop: k's bits -/
theorem bIn_bt {T : Nat → Nat → Bool} {i : Nat} (hi : i < 24) {b : Nat → Int32} : ∀ n, i + 1 + n ≤ 24 → ∀ k j, j < 32 → bt (bIn T i b n k) j = (bt (b k) j || (decide (i < k ∧ k < i + 1 + n ∧ j = i) && T i k)) := by
  intro n
  induction n with
  | zero => intro _ k j _; show bt (b k) j = _; rw [decide_eq_false (by omega)]; simp
  | succ n ih =>
    intro h k j hj
    have e0 := ih (by omega) k j hj
    unfold bIn
    by_cases hT : T i (i + 1 + n) = true
    · rw [if_pos hT]
      unfold upd
      by_cases hk : k = i + 1 + n
      · rw [if_pos hk, ← hk, bt_or, e0, bt_sh i hi j hj]
        rw [hk]
        rw [hT]
        by_cases hji : j = i
        · simp [hji]; 
          right; omega
        · simp [hji]
      · rw [if_neg hk, e0]
        have : (i < k ∧ k < i + 1 + n ∧ j = i) ↔ (i < k ∧ k < i + 1 + (n + 1) ∧ j = i) := by omega
        rw [decide_eq_decide.mpr this]
    · rw [if_neg hT, e0]
      by_cases hk : k = i + 1 + n
      · rw [hk]
        have hT' : T i (i + 1 + n) = false := by simpa using hT
        rw [hT', Bool.and_false, Bool.and_false]
      · have : (i < k ∧ k < i + 1 + n ∧ j = i) ↔ (i < k ∧ k < i + 1 + (n + 1) ∧ j = i) := by omega
        rw [decide_eq_decide.mpr this]
/-- what behind holds after the outer loop -/
theorem bOut_bt {T : Nat → Nat → Bool} {e : Nat} (he : e ≤ 24) {b : Nat → Int32} : ∀ n, n ≤ e → ∀ k, e - n ≤ k → k < e → ∀ j, j < 32 → bt (bOut T e b n k) j = (decide (e - n ≤ j ∧ j < k) && T j k) := by
  intro n
  induction n with
  | zero => intro _ k h1 h2; omega
  | succ n ih =>
    intro hn k h1 h2 j hj
    show bt (bIn T (e - 1 - n) (upd (bOut T e b n) (e - 1 - n) 0) n k) j = _
    rw [bIn_bt (by omega) n (by omega) k j hj]
    unfold upd
    by_cases hk : k = e - 1 - n
    · rw [if_pos hk, bt_zero, decide_eq_false (by omega), decide_eq_false (by omega)]
      simp
    · rw [if_neg hk, ih (by omega) k (by omega) h2 j hj]
      by_cases hj1 : j = e - 1 - n
      · rw [decide_eq_false (show ¬ (e - n ≤ j ∧ j < k) by omega), decide_eq_true (show e - 1 - n < k ∧ k < e - 1 - n + 1 + n ∧ j = e - 1 - n by omega), decide_eq_true (show e - (n + 1) ≤ j ∧ j < k by omega), hj1]
        simp
      · rw [decide_eq_false (show ¬ (e - 1 - n < k ∧ k < e - 1 - n + 1 + n ∧ j = e - 1 - n) by omega)]
        have : (e - n ≤ j ∧ j < k) ↔ (e - (n + 1) ≤ j ∧ j < k) := by omega
        rw [show decide (e - n ≤ j ∧ j < k) = decide (e - (n + 1) ≤ j ∧ j < k) from decide_eq_decide.mpr this]
        simp
theorem frA_iff {pz : Nat → Int32} {T : Nat → Nat → Bool} {a c : Nat} : ∀ n, frA pz T a c n = true ↔ ∀ k, k < n → pz (a + k) = 0 → T (a + k) c = false := by
  intro n
  induction n with
  | zero => simp [frA]
  | succ n ih =>
    unfold frA
    constructor
    · intro h k hk hz
      by_cases h1 : frA pz T a c n = true
      · rw [if_pos h1] at h
        by_cases hkn : k = n
        · subst hkn
          rw [if_pos hz] at h
          simpa using h
        · exact ih.mp h1 k (by omega) hz
      · rw [if_neg h1] at h; cases h
    · intro h
      rw [if_pos (ih.mpr (fun k hk hz => h k (by omega) hz))]
      split
      · rename_i hz; simp [h n (by omega) hz]
      · rfl
/-- the class's left against the reference's placed -/
def LRel (a e : Nat) (lf : Int32) (pz : Nat → Int32) : Prop := (∀ k, k < 32 → bt lf k = true → a ≤ k ∧ k < e) ∧ ∀ k, a ≤ k → k < e → (bt lf k = true ↔ pz k = 0)
theorem may_fre {T : Nat → Nat → Bool} {a e : Nat} (he : e ≤ 24) {bh : Nat → Int32} (hb : ∀ k, a ≤ k → k < e → ∀ j, j < 32 → bt (bh k) j = (decide (a ≤ j ∧ j < k) && T j k)) {lf : Int32} {pz : Nat → Int32} (r : LRel a e lf pz) {c : Nat} (h1 : a ≤ c) (h2 : c < e) : may bh lf c = fre pz T a c := by
  unfold may fre
  by_cases hz : pz c = 0
  · have hl : bt lf c = true := (r.2 c h1 h2).mpr hz
    rw [if_neg (fun k => by rw [(bt_sh_or (by omega)).mp k] at hl; cases hl), if_pos hz]
    by_cases hf : frA pz T a c (c - a) = true
    · rw [hf, if_pos]
      rw [bt_eq0]
      intro k hk
      rw [bt_and, hb c h1 h2 k hk]
      by_cases hak : a ≤ k ∧ k < c
      · by_cases hlk : bt lf k = true
        · have hpz := (r.2 k hak.1 (by omega)).mp hlk
          have := (frA_iff _).mp hf (k - a) (by omega) (by rw [show a + (k - a) = k by omega]; exact hpz)
          rw [show a + (k - a) = k by omega] at this
          rw [this]; simp
        · simp [hlk]
      · simp [hak]
    · have hff : frA pz T a c (c - a) = false := by simpa using hf
      rw [hff, if_neg]
      intro h0
      apply hf
      rw [frA_iff]
      intro k hk hpz
      have hlk := (r.2 (a + k) (by omega) (by omega)).mpr hpz
      have := (bt_eq0.mp h0) (a + k) (by omega)
      rw [bt_and, hb c h1 h2 (a + k) (by omega), hlk, decide_eq_true (show a ≤ a + k ∧ a + k < c by omega)] at this
      simpa using this
  · rw [if_neg hz, if_pos]
    rw [bt_sh_or (by omega)]
    have : ¬ bt lf c = true := fun k => hz ((r.2 c h1 h2).mp k)
    simpa using this
theorem bst_congr {fr fr' : Nat → Bool} {h : Nat → Int32} {a : Nat} : ∀ n, (∀ k, a ≤ k → k < a + n → fr k = fr' k) → bst fr h a n = bst fr' h a n := by
  intro n
  induction n with
  | zero => intro _; rfl
  | succ n ih =>
    intro hk
    unfold bst
    rw [ih (fun k h1 h2 => hk k h1 (by omega)), hk (a + n) (by omega) (by omega)]
theorem bst_some {fr : Nat → Bool} {h : Nat → Int32} {a : Nat} : ∀ n c, bst fr h a n = some c → a ≤ c ∧ c < a + n ∧ fr c = true := by
  intro n
  induction n with
  | zero => intro c h; cases h
  | succ n ih =>
    intro c hc
    unfold bst at hc
    by_cases hf : fr (a + n) = true
    · rw [if_pos hf] at hc
      cases hb : bst fr h a n with
      | none => rw [hb] at hc; cases hc; exact ⟨by omega, by omega, hf⟩
      | some b =>
        rw [hb] at hc
        obtain ⟨i1, i2, i3⟩ := ih b hb
        dsimp only at hc
        split at hc
        · cases hc; exact ⟨i1, by omega, i3⟩
        · cases hc; exact ⟨by omega, by omega, hf⟩
    · rw [if_neg hf] at hc
      obtain ⟨i1, i2, i3⟩ := ih c hc
      exact ⟨i1, by omega, i3⟩
theorem bst_none {fr : Nat → Bool} {h : Nat → Int32} {a : Nat} : ∀ n, bst fr h a n = none → ∀ c, a ≤ c → c < a + n → fr c = false := by
  intro n
  induction n with
  | zero => intro _ c h1 h2; omega
  | succ n ih =>
    intro hn c h1 h2
    unfold bst at hn
    by_cases hf : fr (a + n) = true
    · rw [if_pos hf] at hn
      exfalso
      cases hb : bst fr h a n with
      | none => rw [hb] at hn; cases hn
      | some b => rw [hb] at hn; dsimp only at hn; split at hn <;> cases hn
    · rw [if_neg hf] at hn
      by_cases hc : c = a + n
      · subst hc; simpa using hf
      · exact ih hn c h1 (by omega)
/-- how many of a .. a + n - 1 are placed -/
def cnt (pz : Nat → Int32) (a : Nat) : Nat → Nat
  | 0 => 0
  | n + 1 => cnt pz a n + if pz (a + n) = 0 then 0 else 1
theorem cnt_le (pz : Nat → Int32) (a : Nat) : ∀ n, cnt pz a n ≤ n := by
  intro n
  induction n with
  | zero => exact Nat.le_refl 0
  | succ n ih => unfold cnt; split <;> omega
theorem cnt_upd (pz : Nat → Int32) (a : Nat) {c : Nat} (hz : pz c = 0) : ∀ n, cnt (upd pz c 1) a n = cnt pz a n + if a ≤ c ∧ c < a + n then 1 else 0 := by
  intro n
  induction n with
  | zero => unfold cnt; rw [if_neg (by omega)]
  | succ n ih =>
    unfold cnt
    rw [ih]
    unfold upd
    by_cases hc : a + n = c
    · subst hc
      rw [if_neg (show ¬ (a ≤ a + n ∧ a + n < a + n) by omega), if_pos (show a ≤ a + n ∧ a + n < a + (n + 1) by omega)]
      simp [hz]
    · rw [if_neg hc]
      have : (a ≤ c ∧ c < a + n) ↔ (a ≤ c ∧ c < a + (n + 1)) := by omega
      by_cases h : a ≤ c ∧ c < a + n
      · rw [if_pos h, if_pos (this.mp h)]; omega
      · rw [if_neg h, if_neg (fun k => h (this.mpr k))]; omega
/-- while one is left, one may be placed -/
theorem one_left (pz : Nat → Int32) (a : Nat) : ∀ n, cnt pz a n < n → ∃ c, a ≤ c ∧ c < a + n ∧ pz c = 0 ∧ ∀ k, a ≤ k → k < c → ¬ pz k = 0 := by
  intro n
  induction n with
  | zero => intro h; omega
  | succ n ih =>
    intro h
    by_cases h1 : cnt pz a n < n
    · obtain ⟨c, q1, q2, q3, q4⟩ := ih h1
      exact ⟨c, q1, by omega, q3, q4⟩
    · have h2 : cnt pz a n = n := by have := cnt_le pz a n; omega
      have hz : pz (a + n) = 0 := by
        by_cases hz : pz (a + n) = 0
        · exact hz
        · unfold cnt at h; rw [if_neg hz] at h; omega
      refine ⟨a + n, by omega, by omega, hz, ?_⟩
      -- all before are placed
      have all : ∀ m, cnt pz a m = m → ∀ k, k < m → ¬ pz (a + k) = 0 := by
        intro m
        induction m with
        | zero => intro _ k hk; omega
        | succ m ihm =>
          intro hm k hk
          unfold cnt at hm
          have hle := cnt_le pz a m
          by_cases hzm : pz (a + m) = 0
          · rw [if_pos hzm] at hm; omega
          · rw [if_neg hzm] at hm
            by_cases hkm : k = m
            · subst hkm; exact hzm
            · exact ihm (by omega) k (by omega)
      intro k k1 k2
      have := all n h2 (k - a) (by omega)
      rw [show a + (k - a) = k by omega] at this
      exact this
theorem pick_some {T : Nat → Nat → Bool} {h : Nat → Int32} {a e : Nat} {pz : Nat → Int32} (hc : cnt pz a (e - a) < e - a) : ∃ c, bst (fre pz T a) h a (e - a) = some c ∧ a ≤ c ∧ c < e ∧ pz c = 0 := by
  obtain ⟨c, q1, q2, q3, q4⟩ := one_left pz a (e - a) hc
  have hf : fre pz T a c = true := by
    unfold fre
    rw [if_pos q3, frA_iff]
    intro k hk hz
    exact absurd hz (q4 (a + k) (by omega) (by omega))
  cases hb : bst (fre pz T a) h a (e - a) with
  | none => have := bst_none _ hb c q1 q2; rw [hf] at this; cases this
  | some b =>
    obtain ⟨i1, i2, i3⟩ := bst_some _ _ hb
    refine ⟨b, rfl, i1, by omega, ?_⟩
    unfold fre at i3
    by_cases hz : pz b = 0
    · exact hz
    · rw [if_neg hz] at i3; cases i3
theorem pkM_in {T : Nat → Nat → Bool} {h : Nat → Int32} {a e : Nat} {pz : Nat → Int32} (hc : cnt pz a (e - a) < e - a) : a ≤ pkM T h a e pz ∧ pkM T h a e pz < e ∧ pz (pkM T h a e pz) = 0 ∧ bst (fre pz T a) h a (e - a) = some (pkM T h a e pz) := by
  obtain ⟨c, q1, q2, q3, q4⟩ := pick_some (T := T) (h := h) hc
  have : pkM T h a e pz = c := by unfold pkM; rw [q1]; rfl
  rw [this]
  exact ⟨q2, q3, q4, q1⟩
/-- so many are placed after so many rounds; the order is within the block, and one-to-one -/
theorem bkM_cnt {T : Nat → Nat → Bool} {h : Nat → Int32} {a e : Nat} {S : (Nat → Int32) × (Nat → Nat) × Nat} (h0 : ∀ k, a ≤ k → k < e → S.1 k = 0) : ∀ n, a + n ≤ e → cnt (bkM T h a e S n).1 a (e - a) = n := by
  intro n
  induction n with
  | zero =>
    intro _
    show cnt S.1 a (e - a) = 0
    have : ∀ m, a + m ≤ e → cnt S.1 a m = 0 := by
      intro m
      induction m with
      | zero => intro _; rfl
      | succ m ih => intro hm; unfold cnt; rw [ih (by omega), h0 (a + m) (by omega) (by omega)]; rfl
    by_cases hae : a ≤ e
    · exact this _ (by omega)
    · rw [show e - a = 0 by omega]; rfl
  | succ n ih =>
    intro hn
    have hi := ih (by omega)
    obtain ⟨q1, q2, q3, q4⟩ := pkM_in (T := T) (h := h) (a := a) (e := e) (pz := (bkM T h a e S n).1) (by omega)
    show cnt (upd (bkM T h a e S n).1 (pkM T h a e (bkM T h a e S n).1) 1) a (e - a) = n + 1
    rw [cnt_upd _ _ q3, hi, if_pos (by omega)]
theorem bkM_pk {T : Nat → Nat → Bool} {h : Nat → Int32} {a e : Nat} {S : (Nat → Int32) × (Nat → Nat) × Nat} (h0 : ∀ k, a ≤ k → k < e → S.1 k = 0) {n : Nat} (hn : a + n < e) : a ≤ pkM T h a e (bkM T h a e S n).1 ∧ pkM T h a e (bkM T h a e S n).1 < e ∧ (bkM T h a e S n).1 (pkM T h a e (bkM T h a e S n).1) = 0 ∧ bst (fre (bkM T h a e S n).1 T a) h a (e - a) = some (pkM T h a e (bkM T h a e S n).1) :=
  pkM_in (by rw [bkM_cnt h0 n (by omega)]; omega)
/-- the order after n rounds: old outside, new and one-to-one inside -/
theorem bkM_od {T : Nat → Nat → Bool} {h : Nat → Int32} {a e : Nat} {S : (Nat → Int32) × (Nat → Nat) × Nat} (h0 : ∀ k, a ≤ k → k < e → S.1 k = 0) : ∀ n, a + n ≤ e →
    (∀ k, ¬ (a ≤ k ∧ k < a + n) → (bkM T h a e S n).2.1 k = S.2.1 k) ∧ (∀ k, a ≤ k → k < a + n → a ≤ (bkM T h a e S n).2.1 k ∧ (bkM T h a e S n).2.1 k < e ∧ ¬ (bkM T h a e S n).1 ((bkM T h a e S n).2.1 k) = 0) ∧
    (∀ k j, a ≤ k → k < a + n → a ≤ j → j < a + n → (bkM T h a e S n).2.1 k = (bkM T h a e S n).2.1 j → k = j) := by
  intro n
  induction n with
  | zero => intro _; exact ⟨fun _ _ => rfl, fun k h1 h2 => by omega, fun k j h1 h2 => by omega⟩
  | succ n ih =>
    intro hn
    obtain ⟨i1, i2, i3⟩ := ih (by omega)
    obtain ⟨q1, q2, q3, q4⟩ := bkM_pk (T := T) (h := h) h0 (n := n) (by omega)
    generalize hX : bkM T h a e S n = X at i1 i2 i3 q1 q2 q3 q4
    have e1 : (bkM T h a e S (n + 1)).1 = upd X.1 (pkM T h a e X.1) 1 := by rw [← hX]; rfl
    have e2 : (bkM T h a e S (n + 1)).2.1 = updN X.2.1 (a + n) (pkM T h a e X.1) := by rw [← hX]; rfl
    rw [e1, e2]
    generalize pkM T h a e X.1 = b at q1 q2 q3 q4
    refine ⟨fun k hk => ?_, fun k h1 h2 => ?_, fun k j h1 h2 h3 h4 he => ?_⟩
    · unfold updN; rw [if_neg (by omega)]; exact i1 k (by omega)
    · unfold updN upd
      by_cases hk : k = a + n
      · rw [if_pos hk]; exact ⟨q1, q2, by rw [if_pos rfl]; decide⟩
      · rw [if_neg hk]
        obtain ⟨p1, p2, p3⟩ := i2 k h1 (by omega)
        refine ⟨p1, p2, ?_⟩
        split
        · decide
        · exact p3
    · unfold updN at he
      by_cases hk : k = a + n
      · by_cases hj : j = a + n
        · omega
        · rw [if_pos hk, if_neg hj] at he
          exact absurd (he ▸ q3) (i2 j h3 (by omega)).2.2
      · by_cases hj : j = a + n
        · rw [if_neg hk, if_pos hj] at he
          exact absurd (he ▸ q3) (i2 k h1 (by omega)).2.2
        · rw [if_neg hk, if_neg hj] at he
          exact i3 k j h1 (by omega) h3 (by omega) he
/-- the class's block goes as the reference's -/
theorem bk_same {T : Nat → Nat → Bool} {h : Nat → Int32} {a e : Nat} (he : e ≤ 24) {bh : Nat → Int32} (hb : ∀ k, a ≤ k → k < e → ∀ j, j < 32 → bt (bh k) j = (decide (a ≤ j ∧ j < k) && T j k)) {S : (Nat → Int32) × (Nat → Nat) × Nat} (h0 : ∀ k, a ≤ k → k < e → S.1 k = 0) :
    ∀ n, a + n ≤ e → LRel a e (bkC bh h a e (lfB a (e - a), S.2) n).1 (bkM T h a e S n).1 ∧ (bkC bh h a e (lfB a (e - a), S.2) n).2 = (bkM T h a e S n).2 := by
  intro n
  induction n with
  | zero =>
    intro hn
    refine ⟨⟨fun k hk hb => ?_, fun k h1 h2 => ?_⟩, rfl⟩
    · have : bt (lfB a (e - a)) k = true := hb
      rw [bt_lf a _ (by omega) k hk] at this
      have := of_decide_eq_true this
      omega
    · show bt (lfB a (e - a)) k = true ↔ S.1 k = 0
      rw [bt_lf a _ (by omega) k (by omega), decide_eq_true (show a ≤ k ∧ k < a + (e - a) by omega), h0 k h1 h2]
      simp
  | succ n ih =>
    intro hn
    obtain ⟨r, e1⟩ := ih (by omega)
    obtain ⟨q1, q2, q3, q4⟩ := bkM_pk (T := T) (h := h) h0 (n := n) (by omega)
    have ep : pkC bh h a e (bkC bh h a e (lfB a (e - a), S.2) n).1 = pkM T h a e (bkM T h a e S n).1 := by
      unfold pkC pkM
      rw [bst_congr (fr' := fre (bkM T h a e S n).1 T a) (e - a) (fun k h1 h2 => may_fre he hb r h1 (by omega))]
    refine ⟨?_, ?_⟩
    · show LRel a e ((bkC bh h a e (lfB a (e - a), S.2) n).1 &&& (sh1 (pkC bh h a e (bkC bh h a e (lfB a (e - a), S.2) n).1) ^^^ (-1))) (upd (bkM T h a e S n).1 (pkM T h a e (bkM T h a e S n).1) 1)
      rw [ep]
      generalize pkM T h a e (bkM T h a e S n).1 = b at q1 q2
      generalize (bkC bh h a e (lfB a (e - a), S.2) n).1 = lf at r
      generalize (bkM T h a e S n).1 = pz at r
      refine ⟨fun k hk hbk => ?_, fun k h1 h2 => ?_⟩
      · rw [bt_and] at hbk
        exact r.1 k hk (by simp at hbk; exact hbk.1)
      · rw [bt_and, bt_xor, bt_sh b (by omega) k (by omega), bt_m1 k (by omega)]
        unfold upd
        by_cases hkb : k = b
        · rw [if_pos hkb, decide_eq_true hkb]; simp
        · rw [if_neg hkb, decide_eq_false hkb]
          simp
          exact r.2 k h1 h2
    · show (updN (bkC bh h a e (lfB a (e - a), S.2) n).2.1 (a + n) (pkC bh h a e (bkC bh h a e (lfB a (e - a), S.2) n).1), (bkC bh h a e (lfB a (e - a), S.2) n).2.2 + if pkC bh h a e (bkC bh h a e (lfB a (e - a), S.2) n).1 = a + n then 0 else 1) = _
      rw [ep, e1]
      rfl
end Sched
section SchedOuter
/-- the end of a block -/
def enF (ok : Nat → Bool) : Nat → Nat → Nat
  | 0, e => e
  | n + 1, e => if ok e then enF ok n (e + 1) else e
theorem enF_spec (ok : Nat → Bool) : ∀ n e, e ≤ enF ok n e ∧ enF ok n e ≤ e + n ∧ (∀ k, e ≤ k → k < enF ok n e → ok k = true) ∧ (enF ok n e < e + n → ok (enF ok n e) = false) := by
  intro n
  induction n with
  | zero => intro e; exact ⟨Nat.le_refl _, Nat.le_refl _, fun k h1 h2 => absurd h2 (by show ¬ k < e; omega), fun h => absurd h (by show ¬ e < e + 0; omega)⟩
  | succ n ih =>
    intro e
    unfold enF
    by_cases h : ok e = true
    · rw [if_pos h]
      obtain ⟨i1, i2, i3, i4⟩ := ih (e + 1)
      refine ⟨by omega, by omega, fun k h1 h2 => ?_, fun h1 => i4 (by omega)⟩
      by_cases hk : k = e
      · rw [hk]; exact h
      · exact i3 k (by omega) h2
    · rw [if_neg h]
      exact ⟨Nat.le_refl _, by omega, fun k h1 h2 => by omega, fun _ => by simpa using h⟩
def okE (ins ld : Nat → Bool) (i k : Nat) : Bool := if ins k then (if k = i then true else !ld k) else false
def enE (ins ld : Nat → Bool) (i : Nat) : Nat := enF (okE ins ld i) (24 - i) i
theorem enE_spec (ins ld : Nat → Bool) {i : Nat} (hi : i ≤ 24) : i ≤ enE ins ld i ∧ enE ins ld i ≤ 24 ∧ (∀ k, i ≤ k → k < enE ins ld i → okE ins ld i k = true) ∧ (enE ins ld i < 24 → okE ins ld i (enE ins ld i) = false) := by
  obtain ⟨h1, h2, h3, h4⟩ := enF_spec (okE ins ld i) (24 - i) i
  exact ⟨h1, by unfold enE; omega, h3, fun h => h4 (by unfold enE at h; omega)⟩
def ouM {X : Type} (B : Nat → X → X) (E : Nat → Nat) : Nat → Nat → X → X
  | 0, _, x => x
  | n + 1, i, x => if i < 24 then ouM B E n (if i < E i then E i else i + 1) (B i x) else x
def ouC {X : Type} (B : Nat → X → X) (ld : Nat → Bool) : Nat → X → X
  | 0, x => x
  | n + 1, x => if ld n then B n (ouC B ld n x) else ouC B ld n x
def ouD {X : Type} (B : Nat → X → X) (ld : Nat → Bool) : Nat → Nat → X → X
  | 0, _, x => x
  | n + 1, i, x => ouD B ld n (i + 1) (if ld i then B i x else x)
theorem ouD_split {X : Type} (B : Nat → X → X) (ld : Nat → Bool) : ∀ n m i x, ouD B ld (n + m) i x = ouD B ld m (i + n) (ouD B ld n i x) := by
  intro n
  induction n with
  | zero => intro m i x; rw [Nat.zero_add]; rfl
  | succ n ih =>
    intro m i x
    rw [show n + 1 + m = (n + m) + 1 by omega]
    show ouD B ld (n + m) (i + 1) _ = ouD B ld m (i + (n + 1)) (ouD B ld n (i + 1) _)
    rw [ih m (i + 1), show i + 1 + n = i + (n + 1) by omega]
theorem ouC_D {X : Type} (B : Nat → X → X) (ld : Nat → Bool) : ∀ n x, ouC B ld n x = ouD B ld n 0 x := by
  intro n
  induction n with
  | zero => intro x; rfl
  | succ n ih =>
    intro x
    rw [ouD_split B ld n 1 0 x, ← ih x, Nat.zero_add]
    rfl
theorem ouD_skip {X : Type} (B : Nat → X → X) (ld : Nat → Bool) : ∀ n i x, (∀ k, i ≤ k → k < i + n → ld k = false) → ouD B ld n i x = x := by
  intro n
  induction n with
  | zero => intro i x _; rfl
  | succ n ih =>
    intro i x h
    show ouD B ld n (i + 1) (if ld i = true then B i x else x) = x
    rw [if_neg (by rw [h i (by omega) (by omega)]; decide)]
    exact ih (i + 1) x (fun k h1 h2 => h k (by omega) (by omega))
theorem ou_same {X : Type} {B : Nat → X → X} {ins ld : Nat → Bool} (hB : ∀ i x, enE ins ld i = i → B i x = x) (hl : ∀ i, i + 1 < 24 → ins i = false → ld (i + 1) = true) :
    ∀ f i x, 24 ≤ i + f → i ≤ 24 → (i < 24 → ld i = true ∨ enE ins ld i = i) → ouM B (enE ins ld) f i x = ouD B ld (24 - i) i x := by
  intro f
  induction f with
  | zero =>
    intro i x h1 h2 _
    rw [show 24 - i = 0 by omega]
    rfl
  | succ f ih =>
    intro i x h1 h2 hv
    unfold ouM
    by_cases hi : i < 24
    · rw [if_pos hi]
      obtain ⟨e1, e2, e3, e4⟩ := enE_spec ins ld h2
      by_cases he : i < enE ins ld i
      · rw [if_pos he]
        have hld : ld i = true := (hv hi).resolve_right (by omega)
        rw [ih _ _ (by omega) e2 (fun h24 => ?_)]
        · have q : ouD B ld (24 - i) i x = ouD B ld (24 - enE ins ld i) (enE ins ld i) (B i x) := by
            rw [show 24 - i = 1 + ((enE ins ld i - i - 1) + (24 - enE ins ld i)) by omega, ouD_split, ouD_split, show i + 1 + (enE ins ld i - i - 1) = enE ins ld i by omega]
            rw [ouD_skip B ld (enE ins ld i - i - 1) (i + 1)]
            · show ouD B ld (24 - enE ins ld i) (enE ins ld i) (if ld i = true then B i x else x) = _
              rw [if_pos hld]
            · intro k k1 k2
              have := e3 k (by omega) (by omega)
              unfold okE at this
              by_cases hk : ins k = true
              · rw [if_pos hk, if_neg (by omega)] at this
                simpa using this
              · rw [if_neg hk] at this; cases this
          exact q.symm
        · have h9 := e4 h24
          unfold okE at h9
          by_cases hk : ins (enE ins ld i) = true
          · rw [if_pos hk, if_neg (by omega)] at h9
            left; simpa using h9
          · right
            have h8 : ∃ m, 24 - enE ins ld i = m + 1 := ⟨24 - enE ins ld i - 1, by omega⟩
            obtain ⟨m, hm⟩ := h8
            show enF _ (24 - enE ins ld i) (enE ins ld i) = enE ins ld i
            rw [hm]
            unfold enF
            rw [if_neg]
            unfold okE
            rw [if_neg hk]
            decide
      · have he2 : enE ins ld i = i := by omega
        rw [if_neg he, hB i x he2]
        have hins : ins i = false := by
          have h9 := e4 (by omega)
          rw [he2] at h9
          unfold okE at h9
          by_cases hk : ins i = true
          · rw [if_pos hk, if_pos rfl] at h9; cases h9
          · simpa using hk
        rw [ih (i + 1) x (by omega) (by omega) (fun h => Or.inl (hl i h hins))]
        rw [show 24 - i = 1 + (24 - (i + 1)) by omega, ouD_split]
        show _ = ouD B ld (24 - (i + 1)) (i + 1) (if ld i = true then B i x else x)
        rw [hB i x he2, ite_self]
    · rw [if_neg hi, show 24 - i = 0 by omega]
      rfl
theorem ouM_C {X : Type} {B : Nat → X → X} {ins ld : Nat → Bool} (hB : ∀ i x, enE ins ld i = i → B i x = x) (hl : ∀ i, i + 1 < 24 → ins i = false → ld (i + 1) = true) (h0 : ld 0 = true) (x : X) : ouM B (enE ins ld) 24 0 x = ouC B ld 24 x := by
  rw [ouC_D, ou_same hB hl 24 0 x (by omega) (by omega) (fun _ => Or.inl h0)]
theorem ouC_rel {X Y : Type} {B : Nat → X → X} {B' : Nat → Y → Y} {ld : Nat → Bool} {R : X → Y → Prop} (h : ∀ i x y, i < 24 → R x y → R (B i x) (B' i y)) : ∀ n x y, n ≤ 24 → R x y → R (ouC B ld n x) (ouC B' ld n y) := by
  intro n
  induction n with
  | zero => intro x y _ r; exact r
  | succ n ih =>
    intro x y hn r
    have := ih x y (by omega) r
    unfold ouC
    split
    · exact h n _ _ (by omega) this
    · exact this
/-- the order stays a permutation -/
def Perm24 (od : Nat → Nat) : Prop := (∀ k, k < 24 → od k < 24) ∧ ∀ k j, k < 24 → j < 24 → od k = od j → k = j
theorem hIn_congr {T T' : Nat → Nat → Bool} {L L' : Nat → Nat → Int32} {i : Nat} {h : Nat → Int32} : ∀ n, (∀ k, i < k → k < i + 1 + n → T i k = T' i k) → (∀ k, i < k → k < i + 1 + n → T i k = true → L i k = L' i k) → hIn T L i h n = hIn T' L' i h n := by
  intro n
  induction n with
  | zero => intro _ _; rfl
  | succ n ih =>
    intro h1 h2
    unfold hIn
    rw [ih (fun k a b => h1 k a (by omega)) (fun k a b => h2 k a (by omega)), ← h1 (i + 1 + n) (by omega) (by omega)]
    split
    · rename_i ht
      rw [h2 (i + 1 + n) (by omega) (by omega) ht]
    · rfl
theorem hOut_congr {T T' : Nat → Nat → Bool} {L L' : Nat → Nat → Int32} {e : Nat} {h : Nat → Int32} (h1 : ∀ i k, i < e → k < e → T i k = T' i k) (h2 : ∀ i k, i < e → k < e → T i k = true → L i k = L' i k) : ∀ n, n ≤ e → hOut T L e h n = hOut T' L' e h n := by
  intro n
  induction n with
  | zero => intro _; rfl
  | succ n ih =>
    intro hn
    unfold hOut
    rw [ih (by omega)]
    exact hIn_congr n (fun k a b => h1 _ _ (by omega) (by omega)) (fun k a b => h2 _ _ (by omega) (by omega))
end SchedOuter
