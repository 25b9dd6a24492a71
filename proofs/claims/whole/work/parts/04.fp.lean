/-! DOUBLES: which operations give no NaN; the finite ones -/
section FPx
def fp_fin (a : UInt64) : Prop := ∃ s c q, FP.Core.val64 a = .fin s c q
theorem fp_n {a : UInt64} (h : FP.Core.val64 a ≠ .nan) : vf_n64 a := by
  unfold vf_n64
  rw [UInt64.le_iff_toNat_le, UInt64.toNat_and]
  have h1 : (0x7fffffffffffffff : UInt64).toNat = 2 ^ 63 - 1 := by decide
  have h2 : (0x7ff0000000000000 : UInt64).toNat = 9218868437227405312 := by decide
  rw [h1, h2, Nat.and_two_pow_sub_one_eq_mod]
  unfold FP.Core.val64 FP.Core.decode at h
  have t1 : FP.Core.b64.tails = 4503599627370496 := by decide
  have t2 : FP.Core.b64.exps = 2048 := by decide
  unfold FP.Core.fieldE FP.Core.fieldT at h
  rw [t1, t2] at h
  generalize a.toNat = n at h ⊢
  by_cases c1 : n / 4503599627370496 % 2048 = 2048 - 1
  · rw [if_pos c1] at h
    by_cases c2 : n % 4503599627370496 = 0
    · omega
    · rw [if_neg c2] at h
      exact absurd rfl h
  · omega
theorem fp_fin.n {a : UInt64} (h : fp_fin a) : vf_n64 a := by
  obtain ⟨s, c, q, h⟩ := h
  exact fp_n (by rw [h]; intro z; cases z)
theorem fp_ratio (f : FP.Core.Fmt) (s : Bool) (n d : Nat) (e : Int) : FP.Core.roundRatio f s n d e ≠ .nan := by
  unfold FP.Core.roundRatio FP.Core.roundAt FP.Core.settle FP.Core.bound
  split
  · intro z; cases z
  · split <;> split <;> (intro z; cases z)
theorem fp_add {a b : UInt64} (ha : fp_fin a) (hb : fp_fin b) : vf_n64 (FP.dadd a b) := by
  obtain ⟨s, c, q, ha⟩ := ha
  obtain ⟨t, d, r, hb⟩ := hb
  refine fp_n ?_
  rw [FP.Core.val64_dadd, ha, hb]
  exact fp_ratio _ _ _ _ _
theorem fp_sub {a b : UInt64} (ha : fp_fin a) (hb : fp_fin b) : vf_n64 (FP.dsub a b) := by
  obtain ⟨s, c, q, ha⟩ := ha
  obtain ⟨t, d, r, hb⟩ := hb
  refine fp_n ?_
  rw [FP.Core.val64_dsub, ha, hb]
  exact fp_ratio _ _ _ _ _
theorem fp_mul {a b : UInt64} (ha : fp_fin a) (hb : fp_fin b) : vf_n64 (FP.dmul a b) := by
  obtain ⟨s, c, q, ha⟩ := ha
  obtain ⟨t, d, r, hb⟩ := hb
  refine fp_n ?_
  rw [FP.Core.val64_dmul, ha, hb]
  exact fp_ratio _ _ _ _ _
/-- the divisor isn't 0.0 by dcmp -/
theorem fp_div {a b : UInt64} (ha : fp_fin a) (hb : fp_fin b) (hz : ¬ FP.dcmp b FP.dconst0 = some .eq) : vf_n64 (FP.ddiv a b) := by
  obtain ⟨s, c, q, ha⟩ := ha
  obtain ⟨t, d, r, hb⟩ := hb
  refine fp_n ?_
  rw [FP.Core.val64_ddiv, ha, hb]
  have hd : d ≠ 0 := by
    intro z
    apply hz
    show FP.Core.order (FP.Core.val64 b) (FP.Core.val64 FP.dconst0) = some .eq
    rw [hb, show FP.Core.val64 FP.dconst0 = .fin false 0 FP.Core.b64.qmin by decide, z]
    simp [FP.Core.order, FP.Core.inUnits, FP.Core.signed_zero]
  show (if d = 0 then _ else _) ≠ _
  rw [if_neg hd]
  exact fp_ratio _ _ _ _ _
/-- a number that lies between two finite ones is finite -/
theorem fp_between {a lo hi : UInt64} (hn : FP.Core.val64 a ≠ .nan) (hl : fp_fin lo) (hh : fp_fin hi) (h1 : ¬ FP.dcmp a hi = some .gt) (h2 : ¬ FP.dcmp a lo = some .lt) : fp_fin a := by
  obtain ⟨t, d, r, hl⟩ := hl
  obtain ⟨t', d', r', hh⟩ := hh
  change ¬ FP.Core.order (FP.Core.val64 a) (FP.Core.val64 hi) = some .gt at h1
  change ¬ FP.Core.order (FP.Core.val64 a) (FP.Core.val64 lo) = some .lt at h2
  rw [hh] at h1
  rw [hl] at h2
  unfold fp_fin
  cases hv : FP.Core.val64 a with
  | nan => exact absurd hv hn
  | inf s =>
    rw [hv] at h1 h2
    cases s
    · exact absurd (by simp [FP.Core.order, FP.Core.signed]; decide) h1
    · exact absurd (by simp [FP.Core.order, FP.Core.signed]; decide) h2
  | fin s c q => exact ⟨s, c, q, rfl⟩
theorem fp_i2d (x : Int32) : vf_n64 (FP.i2d x) := by
  refine fp_n ?_
  rw [show FP.Core.val64 (FP.i2d x) = FP.Core.round FP.Core.b64 (FP.Core.ofInt x.toInt) from FP.Core.val64_i2d x]
  exact fp_ratio _ _ _ _ _
theorem fp_notnan {a : UInt64} (h : vf_n64 a) : FP.Core.val64 a ≠ .nan := by
  intro z
  unfold vf_n64 at h
  rw [UInt64.le_iff_toNat_le, UInt64.toNat_and] at h
  have h1 : (0x7fffffffffffffff : UInt64).toNat = 2 ^ 63 - 1 := by decide
  have h2 : (0x7ff0000000000000 : UInt64).toNat = 9218868437227405312 := by decide
  rw [h1, h2, Nat.and_two_pow_sub_one_eq_mod] at h
  unfold FP.Core.val64 FP.Core.decode at z
  have t1 : FP.Core.b64.tails = 4503599627370496 := by decide
  have t2 : FP.Core.b64.exps = 2048 := by decide
  unfold FP.Core.fieldE FP.Core.fieldT at z
  rw [t1, t2] at z
  generalize a.toNat = n at h z
  by_cases c1 : n / 4503599627370496 % 2048 = 2048 - 1
  · rw [if_pos c1] at z
    by_cases c2 : n % 4503599627370496 = 0
    · rw [if_pos c2] at z; cases z
    · omega
  · rw [if_neg c1] at z
    split at z <;> cases z
end FPx
