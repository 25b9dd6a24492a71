/-! THE LAW'S CALLS, PURE: what class and reference answer -/
section Calls
variable {d : Nat} {σ : CS} {τ : MS}
theorem Rel.bd (h : Rel d σ τ) (b : Bool) : Rel d σ (bdF τ b) := h.t11 _
theorem c_code (h : Rel d σ τ) {i o d' a b n r : Int32} {u : CS} (hc : (r = 0 ∧ badC i o d' a b = false ∧ u = sQ σ (cP σ 0 (ix i)) (becQ o d' a b n)) ∨ (r = 1 ∧ badC i o d' a b = true ∧ u = σ)) :
    mI (if okC i o d' a b then cdM τ i o d' a b n else bdF τ false) 11 = r ∧ Rel d u (if okC i o d' a b then cdM τ i o d' a b n else bdF τ false) := by
  rw [badC_ok] at hc
  rcases hc with ⟨rfl, h1, rfl⟩ | ⟨rfl, h1, rfl⟩
  · have h2 : okC i o d' a b = true := by simpa using h1
    rw [if_pos h2]
    exact ⟨rfl, rel_code h h2⟩
  · have h2 : ¬ okC i o d' a b = true := by simpa using h1
    rw [if_neg h2]
    exact ⟨rfl, h.bd false⟩
theorem c_cell (h : Rel d σ τ) {i r : Int32} {v : UInt64} {u : CS} (hc : (r = 0 ∧ (badR i 47 = false ∧ badV v = false) ∧ u = sF σ 0 (vf_upd (cF σ 0) (ix i) v)) ∨ (r = 1 ∧ (badR i 47 = true ∨ badV v = true) ∧ u = σ)) :
    mI (if okV i v then tF (bdF τ true) 0 (vf_upd (mF τ 0) (ix i) v) else bdF τ false) 11 = r ∧ Rel d u (if okV i v then tF (bdF τ true) 0 (vf_upd (mF τ 0) (ix i) v) else bdF τ false) := by
  rw [badR_inF] at hc
  unfold okV
  rcases hc with ⟨rfl, ⟨h1, h2⟩, rfl⟩ | ⟨rfl, h1, rfl⟩
  · have h3 : inF i 0 47 = true := by simpa using h1
    rw [h3, if_pos rfl, h2]
    exact ⟨rfl, rel_cell h h2⟩
  · have : ¬ (if inF i 0 47 = true then !badV v else false) = true := by
      rcases h1 with z | z
      · have h3 : inF i 0 47 = false := by simpa using z
        rw [h3, if_neg (by decide)]; decide
      · rw [z]; split <;> decide
    rw [if_neg this]
    exact ⟨rfl, h.bd false⟩
theorem c_start (h : Rel d σ τ) {i r : Int32} {u : CS} (hc : (r = 0 ∧ badR i 23 = false ∧ u = stF σ i) ∨ (r = 1 ∧ badR i 23 = true ∧ u = σ)) :
    mI (if inF i 0 23 then tI (tI (rsM (bdF τ true)) 0 i) 1 0 else bdF τ false) 11 = r ∧ Rel d u (if inF i 0 23 then tI (tI (rsM (bdF τ true)) 0 i) 1 0 else bdF τ false) := by
  rw [badR_inF] at hc
  rcases hc with ⟨rfl, h1, rfl⟩ | ⟨rfl, h1, rfl⟩
  · have h2 : inF i 0 23 = true := by simpa using h1
    rw [if_pos h2]
    exact ⟨rfl, rel_start h (inF_in (by decide) h2)⟩
  · have h2 : ¬ inF i 0 23 = true := by simpa using h1
    rw [if_neg h2]
    exact ⟨rfl, h.bd false⟩
theorem badN_inF (n : Int32) : badN n = !inF n 1 300 := by
  unfold badN inF
  by_cases h : n < 1
  · rw [if_pos h, if_pos h]; rfl
  · rw [if_neg h, if_neg h]
    by_cases h2 : n ≤ 300
    · rw [if_pos h2, if_neg (Int32.not_lt.mpr h2)]; rfl
    · rw [if_neg h2, if_pos (Int32.not_le.mp h2)]; rfl
theorem run_all (h : Rel d σ τ) (hd : 15 * ((d + 300 : Nat) : Int) < 900000000) {n : Int32} (hn : inF n 1 300 = true) :
    MWr (ix n) (bdF τ (inF n 1 300)) (mI τ 2) n ∧ Rel (d + 300) (ruF (ix n) σ 0 n).2.2 (ruM (ix n) (bdF τ (inF n 1 300)) (mI τ 2) n) ∧
    (((ruF (ix n) σ 0 n).1 = 0 ∧ mI (ruM (ix n) (bdF τ (inF n 1 300)) (mI τ 2) n) 11 = 0 ∧ mI (ruM (ix n) (bdF τ (inF n 1 300)) (mI τ 2) n) 2 - mI τ 2 = (ruF (ix n) σ 0 n).2.1) ∨ (((ruF (ix n) σ 0 n).1 = 3 ∨ (ruF (ix n) σ 0 n).1 = 4) ∧ mI (ruM (ix n) (bdF τ (inF n 1 300)) (mI τ 2) n) 11 = nI (ruF (ix n) σ 0 n).1)) := by
  obtain ⟨q1, q2⟩ := inF_t hn
  obtain ⟨N, hN, rfl⟩ := run_n q1 (Int32.not_lt.mp q2)
  have eN : ix (nI N) = N := ix_nI (by omega)
  rw [eN, ← nI_0]
  have h0 : mI (bdF τ (inF (nI N) 1 300)) 2 - mI τ 2 = nI 0 := by
    show mI τ 2 - mI τ 2 = nI 0
    rw [Int32.sub_self]; rfl
  obtain ⟨a1, a2, a3⟩ := run_sim (N := N) hN N 0 d σ (bdF τ (inF (nI N) 1 300)) (mI τ 2) (by omega) (by omega) (h.bd _) h0 (by rw [hn]; rfl)
  exact ⟨a1, a2.le (by omega), a3⟩
theorem c_runw (h : Rel d σ τ) (hd : 15 * ((d + 300 : Nat) : Int) < 900000000) (n : Int32) : inF n 1 300 = true → mI τ 1 = 0 → MWr (ix n) (bdF τ (inF n 1 300)) (mI τ 2) n := fun hn _ => (run_all h hd hn).1
theorem c_run (h : Rel d σ τ) (hd : 15 * ((d + 300 : Nat) : Int) < 900000000) {n r : Int32} {u : CS} {f : Nat → Int64} (hc : RunY σ n r u f) :
    mI (rnM τ n).2 11 = r ∧ Rel (d + 300) u (rnM τ n).2 ∧ (r = 0 → f 0 = (rnM τ n).1.toInt64) := by
  unfold RunY at hc
  rw [badN_inF] at hc
  have e1 : cI σ 1 = mI τ 1 := h.1.1 1 (by omega)
  unfold rnM
  rcases hc with ⟨rfl, h1, rfl⟩ | ⟨rfl, h1, h2, rfl⟩ | ⟨h1, h2, h3, h4, h5⟩
  · have hn : inF n 1 300 = false := by simpa using h1
    rw [if_neg (by rw [hn]; decide), hn]
    exact ⟨rfl, (h.bd false).le (by omega), fun z => absurd z (by decide)⟩
  · have hn : inF n 1 300 = true := by simpa using h1
    rw [if_pos hn, if_neg (by rw [← e1]; exact h2)]
    exact ⟨rfl, ((h.bd _).t11 2).le (by omega), fun z => absurd z (by decide)⟩
  · have hn : inF n 1 300 = true := by simpa using h1
    obtain ⟨a1, a2, a3⟩ := run_all h hd hn
    rw [if_pos hn, if_pos (by rw [← e1]; exact h2), h4]
    refine ⟨?_, a2, fun z => ?_⟩
    · rcases a3 with ⟨b1, b2, b3⟩ | ⟨b1, b2⟩
      · rw [h3, b1]; exact b2
      · rw [h3]; exact b2
    · rcases a3 with ⟨b1, b2, b3⟩ | ⟨b1, b2⟩
      · rw [h5 b1]
        show _ = (if mI (ruM (ix n) (bdF τ (inF n 1 300)) (mI τ 2) n) 11 ≤ 0 then mI (ruM (ix n) (bdF τ (inF n 1 300)) (mI τ 2) n) 2 - mI τ 2 else 0).toInt64
        rw [b2, if_pos (by decide), b3]
      · rw [h3] at z
        rcases b1 with y | y <;> rw [y] at z <;> exact absurd z (by decide)
theorem c_get {α : Type} (h : Rel d σ τ) {r r9 g : Int32} {u : CS} {a b z f0 : α} (hab : a = b) (hc : (r9 = 0 ∧ badR r g = false ∧ f0 = a ∧ u = σ) ∨ (r9 = 1 ∧ badR r g = true ∧ u = σ)) :
    mI (bdF τ (inF r 0 g)) 11 = r9 ∧ Rel d u (bdF τ (inF r 0 g)) ∧ (r9 = 0 → f0 = (if inF r 0 g then b else z)) := by
  rw [badR_inF] at hc
  rcases hc with ⟨rfl, h1, h2, rfl⟩ | ⟨rfl, h1, rfl⟩
  · have hn : inF r 0 g = true := by simpa using h1
    rw [hn]
    exact ⟨rfl, h.bd true, fun _ => by rw [if_pos rfl, h2, hab]⟩
  · have hn : inF r 0 g = false := by simpa using h1
    rw [hn]
    exact ⟨rfl, h.bd false, fun q => absurd q (by decide)⟩
theorem c_told (h : Rel d σ τ) {i w r9 : Int32} {u : CS} {f0 : Int64} (hc : (r9 = 0 ∧ (badR i 23 = false ∧ badR w 4 = false) ∧ f0 = (toldF (cQ σ (cP σ 0 (ix i))) w).toInt64 ∧ u = σ) ∨ (r9 = 1 ∧ (badR i 23 = true ∨ badR w 4 = true) ∧ u = σ)) :
    mI (bdF τ (okT i w)) 11 = r9 ∧ Rel d u (bdF τ (okT i w)) ∧ (r9 = 0 → f0 = (if okT i w then toldF (mq τ (ix i)) w else 0).toInt64) := by
  rw [badR_inF, badR_inF] at hc
  unfold okT
  rcases hc with ⟨rfl, ⟨h1, h2⟩, h3, rfl⟩ | ⟨rfl, h1, rfl⟩
  · have a1 : inF i 0 23 = true := by simpa using h1
    have a2 : inF w 0 4 = true := by simpa using h2
    rw [a1, if_pos rfl, a2]
    refine ⟨rfl, h.bd true, fun _ => ?_⟩
    rw [if_pos rfl, h3, h.2.2.1.1 (ix i) (vp_lt (inF_in (by decide) a1))]
    rfl
  · have : (if inF i 0 23 = true then inF w 0 4 else false) = false := by
      rcases h1 with z | z
      · have a1 : inF i 0 23 = false := by simpa using z
        rw [a1]; rfl
      · have a1 : inF w 0 4 = false := by simpa using z
        rw [a1, ite_self]
    rw [this]
    exact ⟨rfl, h.bd false, fun q => absurd q (by decide)⟩
theorem c_count (h : Rel d σ τ) (w : Int32) : cntF σ w = cnM τ w := by
  obtain ⟨⟨hI, hJ, _⟩, _⟩ := h
  unfold cntF cnM
  have b1 : (¬ w < 10 ∧ ¬ 18 ≤ w) ↔ inF w 10 17 = true := by
    have e17 : 18 ≤ w ↔ 17 < w := by
      rw [Int32.lt_iff_toInt_lt, Int32.le_iff_toInt_le, show (17 : Int32).toInt = 17 by decide, show (18 : Int32).toInt = 18 by decide]
      omega
    rw [e17]
    unfold inF
    by_cases a : w < 10
    · rw [if_pos a]; exact ⟨fun z => absurd a z.1, fun z => by cases z⟩
    · rw [if_neg a]
      by_cases b : 17 < w
      · rw [if_pos b]; exact ⟨fun z => absurd b z.2, fun z => by cases z⟩
      · rw [if_neg b]; exact ⟨fun _ => rfl, fun _ => ⟨a, b⟩⟩
  have b2 : (¬ w < 20 ∧ ¬ 24 ≤ w) ↔ inF w 20 23 = true := by
    have e17 : 24 ≤ w ↔ 23 < w := by
      rw [Int32.lt_iff_toInt_lt, Int32.le_iff_toInt_le, show (23 : Int32).toInt = 23 by decide, show (24 : Int32).toInt = 24 by decide]
      omega
    rw [e17]
    unfold inF
    by_cases a : w < 20
    · rw [if_pos a]; exact ⟨fun z => absurd a z.1, fun z => by cases z⟩
    · rw [if_neg a]
      by_cases b : 23 < w
      · rw [if_pos b]; exact ⟨fun z => absurd b z.2, fun z => by cases z⟩
      · rw [if_neg b]; exact ⟨fun _ => rfl, fun _ => ⟨a, b⟩⟩
  by_cases q1 : inF w 10 17 = true
  · rw [if_pos (b1.mpr q1), if_pos q1, hJ 1 (by omega)]
  · rw [if_neg (fun z => q1 (b1.mp z)), if_neg q1]
    by_cases q2 : inF w 20 23 = true
    · rw [if_pos (b2.mpr q2), if_pos q2, hJ 1 (by omega)]
      have : (8 : Int32) + w - 20 = w - 12 := by
        rw [Int32.add_comm 8 w, Int32.sub_eq_add_neg, Int32.sub_eq_add_neg, Int32.add_assoc]
        rfl
      rw [this]
    · rw [if_neg (fun z => q2 (b2.mp z)), if_neg q2, hI 0 (by omega), hI 1 (by omega), hI 2 (by omega), hI 3 (by omega), hI 7 (by omega), hI 8 (by omega), hI 10 (by omega)]
end Calls
