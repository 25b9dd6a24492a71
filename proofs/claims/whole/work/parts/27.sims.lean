/-! THE CLASS AGAINST THE REFERENCE, PURE: schedule -/
section SimS
theorem enF_cg {ok ok' : Nat → Bool} : ∀ n e, (∀ k, e ≤ k → k < e + n → ok k = ok' k) → enF ok n e = enF ok' n e := by
  intro n
  induction n with
  | zero => intro e _; rfl
  | succ n ih =>
    intro e h
    unfold enF
    rw [h e (by omega) (by omega), ih (e + 1) (fun k h1 h2 => h k (by omega) (by omega))]
theorem enE_cg {ins ins' ld ld' : Nat → Bool} (h1 : ∀ k, k < 24 → ins k = ins' k) (h2 : ∀ k, k < 24 → ld k = ld' k) {i : Nat} (hi : i ≤ 24) : enE ins ld i = enE ins' ld' i := by
  unfold enE
  refine enF_cg _ _ (fun k _ hk => ?_)
  unfold okE
  rw [h1 k (by omega), h2 k (by omega)]
theorem ouC_cg {X : Type} {B : Nat → X → X} {ld ld' : Nat → Bool} : ∀ n x, (∀ k, k < n → ld k = ld' k) → ouC B ld n x = ouC B ld' n x := by
  intro n
  induction n with
  | zero => intro x _; rfl
  | succ n ih =>
    intro x h
    unfold ouC
    rw [h n (by omega), ih x (fun k hk => h k (by omega))]
theorem bkC_mv {bh h : Nat → Int32} {a e : Nat} {lf : Int32} {od : Nat → Nat} {m : Nat} : ∀ n, bkC bh h a e (lf, od, m) n = ((bkC bh h a e (lf, od, 0) n).1, (bkC bh h a e (lf, od, 0) n).2.1, m + (bkC bh h a e (lf, od, 0) n).2.2) := by
  intro n
  induction n with
  | zero => rfl
  | succ n ih =>
    show ((bkC bh h a e (lf, od, m) n).1 &&& (sh1 (pkC bh h a e (bkC bh h a e (lf, od, m) n).1) ^^^ (-1)), updN (bkC bh h a e (lf, od, m) n).2.1 (a + n) (pkC bh h a e (bkC bh h a e (lf, od, m) n).1), (bkC bh h a e (lf, od, m) n).2.2 + if pkC bh h a e (bkC bh h a e (lf, od, m) n).1 = a + n then 0 else 1) = _
    rw [ih]
    show (_, _, _) = (_, _, m + ((bkC bh h a e (lf, od, 0) n).2.2 + if pkC bh h a e (bkC bh h a e (lf, od, 0) n).1 = a + n then 0 else 1))
    rw [Nat.add_assoc]
    rfl
/-- the code behind a schedule's start -/
def SR (σ : CS) (τ : MS) : Prop := (∀ k, k < 24 → QO σ k = bq (mq τ k)) ∧ ∀ k, k < 24 → okM (mq τ k)
variable {σ : CS} {τ : MS}
theorem SR.t (h : SR σ τ) {i k : Nat} (hi : i < 24) (hk : k < 24) : TC σ i k = TM τ i k := by
  unfold TC TM
  rw [h.1 i hi, h.1 k hk]
  exact msb_eq (h.2 k hk) (h.2 i hi)
theorem SR.l (h : SR σ τ) {i k : Nat} (hi : i < 24) (hk : k < 24) : LC σ i k = LM τ i k := by
  unfold LC LM
  have := L_eq (q := mq τ) (h.2 i hi) (h.2 k hk)
  rw [← this]
  unfold LcQ
  rw [h.1 i hi, h.1 k hk]
theorem SR.i (h : SR σ τ) {k : Nat} (hk : k < 24) : insC σ k = insK τ k := by
  unfold insC insK
  rw [h.1 k hk]
  exact ins_eq (h.2 k hk)
theorem l2_iff {f : Nat → Int32} {k : Nat} : ∀ n, (¬ l2A σ f n k = 0 ↔ ¬ f k = 0 ∨ ∃ j, j < n ∧ tgtQ (QO σ j) = true ∧ ix (flm (QO σ j 4) 24) = k) := by
  intro n
  induction n with
  | zero => exact ⟨Or.inl, fun h => h.elim id (fun ⟨j, hj, _⟩ => absurd hj (Nat.not_lt_zero j))⟩
  | succ n ih =>
    by_cases ht : tgtQ (QO σ n) = true
    · rw [l2_y ht]
      unfold upd
      by_cases hk : k = ix (flm (QO σ n 4) 24)
      · rw [if_pos hk]
        exact ⟨fun _ => Or.inr ⟨n, by omega, ht, hk.symm⟩, fun _ => by decide⟩
      · rw [if_neg hk, ih]
        constructor
        · rintro (h | ⟨j, a, b, c⟩)
          · exact Or.inl h
          · exact Or.inr ⟨j, by omega, b, c⟩
        · rintro (h | ⟨j, a, b, c⟩)
          · exact Or.inl h
          · by_cases e : j = n
            · rw [e] at c; exact absurd c.symm hk
            · exact Or.inr ⟨j, by omega, b, c⟩
    · have ht' : tgtQ (QO σ n) = false := by simpa using ht
      rw [l2_n ht', ih]
      constructor
      · rintro (h | ⟨j, a, b, c⟩)
        · exact Or.inl h
        · exact Or.inr ⟨j, by omega, b, c⟩
      · rintro (h | ⟨j, a, b, c⟩)
        · exact Or.inl h
        · by_cases e : j = n
          · rw [e] at b; exact absurd b ht
          · exact Or.inr ⟨j, by omega, b, c⟩
theorem ldP_iff {i : Nat} : ∀ n, (ldP τ i n = true ↔ ∃ j, j < n ∧ ¬ mJ τ 6 j ≤ 16 ∧ mdl (mJ τ 10 j) = nI i) := by
  intro n
  induction n with
  | zero => exact ⟨fun h => (by cases h), fun ⟨j, hj, _⟩ => absurd hj (Nat.not_lt_zero j)⟩
  | succ n ih =>
    constructor
    · intro h
      by_cases h1 : ldP τ i n = true
      · obtain ⟨j, a, b⟩ := ih.mp h1
        exact ⟨j, by omega, b⟩
      · unfold ldP at h
        rw [if_neg h1] at h
        by_cases h2 : mJ τ 6 n ≤ 16
        · rw [if_pos h2] at h; cases h
        · rw [if_neg h2] at h
          by_cases h3 : mdl (mJ τ 10 n) = nI i
          · exact ⟨n, by omega, h2, h3⟩
          · rw [if_neg h3] at h; cases h
    · rintro ⟨j, a, b, c⟩
      unfold ldP
      by_cases e : j = n
      · subst e
        rw [if_neg b, if_pos c, ite_self]
      · rw [if_pos (ih.mpr ⟨j, by omega, b, c⟩)]
theorem lt17 (x : Int32) : x < 17 ↔ x ≤ 16 := by
  rw [Int32.lt_iff_toInt_lt, Int32.le_iff_toInt_le, show (17 : Int32).toInt = 17 by decide, show (16 : Int32).toInt = 16 by decide]
  omega
theorem flm_ix {x : Int32} {k : Nat} (hk : k < 24) : ix (flm x 24) = k ↔ mdl x = nI k := by
  rw [flm_mdl]
  obtain ⟨j, hj, e⟩ := vp_in_of (flm_in x) (by decide)
  rw [e, ix_nI (by omega)]
  constructor
  · intro h; rw [h]
  · intro h; exact nI_inj (by omega) (by omega) h
/-- the leaders -/
theorem SR.ld (h : SR σ τ) {f : Nat → Int32} {k : Nat} (hk : k < 24) : (!decide (l2A σ (l1A σ f 24) 24 k = 0)) = ldM τ k := by
  have hj : (∃ j, j < 24 ∧ tgtQ (QO σ j) = true ∧ ix (flm (QO σ j 4) 24) = k) ↔ ldP τ k 24 = true := by
    rw [ldP_iff]
    constructor
    · rintro ⟨j, a, b, c⟩
      rw [h.1 j a] at b c
      refine ⟨j, a, fun z => ?_, (flm_ix hk).mp c⟩
      have : tgtQ (bq (mq τ j)) = false := if_pos ((lt17 _).mpr z)
      rw [this] at b; cases b
    · rintro ⟨j, a, b, c⟩
      refine ⟨j, a, ?_, ?_⟩
      · rw [h.1 j a]; exact if_neg (fun z => b ((lt17 _).mp z))
      · rw [h.1 j a]; exact (flm_ix hk).mpr c
  have hl1 : l1A σ f 24 k = b2i (l1B σ k) := if_pos hk
  have key : (¬ l2A σ (l1A σ f 24) 24 k = 0) ↔ ldM τ k = true := by
    rw [l2_iff 24, hj, hl1]
    unfold l1B ldM
    by_cases h0 : k = 0
    · rw [if_pos h0, if_pos h0]; exact ⟨fun _ => rfl, fun _ => Or.inl (by decide)⟩
    · rw [if_neg h0, if_neg h0, h.1 (k - 1) (by omega)]
      unfold endQ tgtQ
      show (¬ b2i (if mJ τ 6 (k - 1) = 0 then true else if mJ τ 6 (k - 1) < 17 then false else true) = 0 ∨ _) ↔ _
      by_cases h1 : mJ τ 6 (k - 1) = 0
      · rw [if_pos h1, if_pos h1]; exact ⟨fun _ => rfl, fun _ => Or.inl (by decide)⟩
      · rw [if_neg h1, if_neg h1]
        by_cases h2 : mJ τ 6 (k - 1) < 17
        · rw [if_pos h2, if_pos ((lt17 _).mp h2)]
          exact ⟨fun z => z.elim (fun y => absurd rfl y) id, Or.inr⟩
        · rw [if_neg h2, if_neg (fun z => h2 ((lt17 _).mpr z))]
          exact ⟨fun _ => rfl, fun _ => Or.inl (by decide)⟩
  by_cases z : l2A σ (l1A σ f 24) 24 k = 0
  · rw [decide_eq_true z]
    by_cases y : ldM τ k = true
    · exact absurd z (key.mpr y)
    · simpa using y
  · rw [decide_eq_false z, key.mp z]; rfl
/-- one block -/
def RXY (y : SY) (x : SX) : Prop := y.1 = x.1 ∧ y.2.2 = x.2.2
theorem blk_rel (h : SR σ τ) (hl : ∀ k, k < 24 → ldC σ k = ldM τ k) : ∀ i y x, i < 24 → RXY y x → RXY (BC σ i y) (BM τ i x) := by
  intro i y x hi r
  have he : enC σ i = enM τ i := enE_cg (fun k hk => h.i hk) hl (by omega)
  obtain ⟨e1, e2, _, _⟩ := enE_spec (insK τ) (ldM τ) (i := i) (by omega)
  have e1 : i ≤ enM τ i := e1
  have e2 : enM τ i ≤ 24 := e2
  unfold BC BM RXY
  dsimp only
  rw [he]
  generalize enM τ i = e at e1 e2
  have eh : hOut (TC σ) (LC σ) e y.1 (e - i) = hOut (TM τ) (LM τ) e x.1 (e - i) := by
    rw [r.1]
    exact hOut_congr (fun a b ha hb => h.t (by omega) (by omega)) (fun a b ha hb _ => h.l (by omega) (by omega)) (e - i) (by omega)
  rw [eh]
  refine ⟨rfl, ?_⟩
  have hb : ∀ k, i ≤ k → k < e → ∀ j, j < 32 → bt (bOut (TC σ) e y.2.1 (e - i) k) j = (decide (i ≤ j ∧ j < k) && TM τ j k) := by
    intro k k1 k2 j hj
    rw [bOut_bt e2 (e - i) (by omega) k (by omega) k2 j hj, show e - (e - i) = i by omega]
    by_cases z : i ≤ j ∧ j < k
    · rw [h.t (by omega) (by omega)]
    · rw [decide_eq_false z]; rfl
  have := (bk_same (T := TM τ) (h := hOut (TM τ) (LM τ) e x.1 (e - i)) (a := i) e2 hb (S := (pzO x.2.1 e (e - i), x.2.2)) (pz0 e1) (e - i) (by omega)).2
  rw [← this]
  have hm := bkC_mv (bh := bOut (TC σ) e y.2.1 (e - i)) (h := hOut (TM τ) (LM τ) e x.1 (e - i)) (a := i) (e := e) (lf := lfB i (e - i)) (od := y.2.2.1) (m := y.2.2.2) (e - i)
  show _ = (bkC (bOut (TC σ) e y.2.1 (e - i)) (hOut (TM τ) (LM τ) e x.1 (e - i)) i e (lfB i (e - i), x.2.2) (e - i)).2
  rw [← r.2]
  show _ = (bkC (bOut (TC σ) e y.2.1 (e - i)) (hOut (TM τ) (LM τ) e x.1 (e - i)) i e (lfB i (e - i), y.2.2.1, y.2.2.2) (e - i)).2
  rw [hm]
/-- the order is a permutation -/
def PI (i : Nat) (x : SX) : Prop := (∀ k, i ≤ k → x.2.2.1 k = k) ∧ (∀ k, k < i → x.2.2.1 k < i) ∧ ∀ k j, k < i → j < i → x.2.2.1 k = x.2.2.1 j → k = j
theorem BM_pi {i : Nat} (hi : i < 24) {x : SX} (p : PI i x) : PI (if i < enM τ i then enM τ i else i + 1) (BM τ i x) := by
  obtain ⟨e1, e2, _, _⟩ := enE_spec (insK τ) (ldM τ) (i := i) (by omega)
  have e1 : i ≤ enM τ i := e1
  have e2 : enM τ i ≤ 24 := e2
  obtain ⟨b1, b2, b3⟩ := bkM_od (T := TM τ) (h := hOut (TM τ) (LM τ) (enM τ i) x.1 (enM τ i - i)) (a := i) (e := enM τ i) (S := (pzO x.2.1 (enM τ i) (enM τ i - i), x.2.2)) (pz0 e1) (enM τ i - i) (by omega)
  have hB : ∀ k, (BM τ i x).2.2.1 k = (bkM (TM τ) (hOut (TM τ) (LM τ) (enM τ i) x.1 (enM τ i - i)) i (enM τ i) (pzO x.2.1 (enM τ i) (enM τ i - i), x.2.2) (enM τ i - i)).2.1 k := fun _ => rfl
  generalize bkM (TM τ) (hOut (TM τ) (LM τ) (enM τ i) x.1 (enM τ i - i)) i (enM τ i) (pzO x.2.1 (enM τ i) (enM τ i - i), x.2.2) (enM τ i - i) = Y at b1 b2 b3 hB
  generalize BM τ i x = Z at hB
  obtain ⟨p1, p2, p3⟩ := p
  unfold PI
  generalize enM τ i = e at *
  have out : ∀ k, k < i ∨ e ≤ k → Z.2.2.1 k = x.2.2.1 k := fun k hk => by rw [hB]; exact b1 k (by omega)
  have inn : ∀ k, i ≤ k → k < e → i ≤ Z.2.2.1 k ∧ Z.2.2.1 k < e := fun k k1 k2 => by rw [hB]; have := b2 k k1 (by omega); exact ⟨this.1, this.2.1⟩
  by_cases he : i < e
  · rw [if_pos he]
    refine ⟨fun k hk => by rw [out k (Or.inr hk)]; exact p1 k (by omega), fun k hk => ?_, fun k j hk hj hkj => ?_⟩
    · by_cases z : k < i
      · rw [out k (Or.inl z)]; have := p2 k z; omega
      · exact (inn k (by omega) hk).2
    · by_cases z : k < i
      · by_cases z2 : j < i
        · rw [out k (Or.inl z), out j (Or.inl z2)] at hkj; exact p3 k j z z2 hkj
        · have a := inn j (by omega) hj
          rw [out k (Or.inl z)] at hkj
          have := p2 k z
          omega
      · by_cases z2 : j < i
        · have a := inn k (by omega) hk
          rw [out j (Or.inl z2)] at hkj
          have := p2 j z2
          omega
        · rw [hB, hB] at hkj
          exact b3 k j (by omega) (by omega) (by omega) (by omega) hkj
  · rw [if_neg he]
    have all : ∀ k, Z.2.2.1 k = x.2.2.1 k := fun k => out k (by omega)
    refine ⟨fun k hk => by rw [all]; exact p1 k (by omega), fun k hk => ?_, fun k j hk hj hkj => ?_⟩
    · rw [all]
      by_cases z : k < i
      · have := p2 k z; omega
      · rw [p1 k (by omega)]; exact hk
    · rw [all, all] at hkj
      by_cases z : k < i
      · by_cases z2 : j < i
        · exact p3 k j z z2 hkj
        · rw [p1 j (by omega)] at hkj
          have := p2 k z
          omega
      · rw [p1 k (by omega)] at hkj
        by_cases z2 : j < i
        · have := p2 j z2
          omega
        · rw [p1 j (by omega)] at hkj; exact hkj
theorem ouM_pi : ∀ f i x, 24 ≤ i + f → i ≤ 24 → PI i x → PI 24 (ouM (BM τ) (enM τ) f i x) := by
  intro f
  induction f with
  | zero => intro i x h1 h2 p; rw [show i = 24 by omega] at p; exact p
  | succ f ih =>
    intro i x h1 h2 p
    unfold ouM
    by_cases h : i < 24
    · rw [if_pos h]
      have e2 : enM τ i ≤ 24 := (enE_spec (insK τ) (ldM τ) (i := i) (by omega)).2.1
      have q := BM_pi (τ := τ) h p
      by_cases h9 : i < enM τ i
      · rw [if_pos h9] at q ⊢
        exact ih _ _ (by omega) e2 q
      · rw [if_neg h9] at q ⊢
        exact ih _ _ (by omega) (by omega) q
    · have hi : i = 24 := by omega
      rw [if_neg h]
      rw [hi] at p
      exact p
theorem BM_id (i : Nat) (x : SX) (h : enE (insK τ) (ldM τ) i = i) : BM τ i x = x := by
  have he : enM τ i = i := h
  unfold BM
  rw [he, Nat.sub_self]
  have : pzO x.2.1 i 0 = x.2.1 := by
    funext k
    unfold pzO
    rw [if_neg (by omega)]
  rw [this]
  rfl
theorem ld_next (i : Nat) (hq : okM (mq τ i)) (h : insK τ i = false) : ldM τ (i + 1) = true := by
  unfold insK insM at h
  unfold ldM
  rw [if_neg (by omega), show i + 1 - 1 = i by omega]
  by_cases h0 : mJ τ 6 i = 0
  · rw [if_pos h0]
  · rw [if_neg h0]
    rw [if_neg (fun z => h0 ((le0_in hq.1).mp z))] at h
    by_cases h2 : 17 ≤ mq τ i 0
    · rw [if_neg (show ¬ mJ τ 6 i ≤ 16 from fun z => absurd ((lt17 _).mpr z) (Int32.not_lt.mpr h2))]
    · rw [if_neg h2] at h; cases h
/-- what both schedules answer -/
theorem sch_rel (h : SR (roS σ) (tI τ 11 0)) (hH : cJ σ 7 = mJ τ 11) (ld : ∀ k, k < 24 → ldC (roS σ) k = ldM (tI τ 11 0) k) : RXY (scC σ) (schX τ) ∧ PI 24 (schX τ) := by
  have e1 : schX τ = ouC (BM (tI τ 11 0)) (ldM (tI τ 11 0)) 24 (x0M (tI τ 11 0)) := ouM_C' h.2 _
  refine ⟨?_, ouM_pi 24 0 _ (by omega) (by omega) ⟨fun k _ => rfl, fun k hk => absurd hk (Nat.not_lt_zero k), fun k j hk => absurd hk (Nat.not_lt_zero k)⟩⟩
  rw [e1]
  unfold scC
  rw [ouC_cg 24 _ ld]
  exact ouC_rel (R := RXY) (fun i x y hi r => blk_rel h ld i x y hi r) 24 _ _ (Nat.le_refl _) ⟨hH, rfl⟩
where
  ouM_C' {τ : MS} (hq : ∀ k, k < 24 → okM (mq τ k)) (x : SX) : ouM (BM τ) (enM τ) 24 0 x = ouC (BM τ) (ldM τ) 24 x :=
    ouM_C (fun i x h => BM_id i x h) (fun i hi h => ld_next i (hq i (by omega)) h) (by unfold ldM; rw [if_pos rfl]) x
end SimS
