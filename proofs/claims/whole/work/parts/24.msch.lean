/-! CONTRACT OF THE REFERENCE: schedule -/
section MSch2
abbrev SX : Type := (Nat → Int32) × (Nat → Int32) × (Nat → Nat) × Nat
def odA (f : Nat → Int32) (od : Nat → Nat) : Nat → Int32 := fun k => if k < 24 then nI (od k) else f k
def scS (σ : MS) (x : SX) : MS := tJ (tJ (tJ σ 11 x.1) 14 x.2.1) 12 (odA (mJ σ 12) x.2.2.1)
def insK (σ : MS) (k : Nat) : Bool := insM (mq σ k)
def enM (σ : MS) (i : Nat) : Nat := enE (insK σ) (ldM σ) i
def BM (σ : MS) (i : Nat) (x : SX) : SX := (hOut (TM σ) (LM σ) (enM σ i) x.1 (enM σ i - i), bkM (TM σ) (hOut (TM σ) (LM σ) (enM σ i) x.1 (enM σ i - i)) i (enM σ i) (pzO x.2.1 (enM σ i) (enM σ i - i), x.2.2) (enM σ i - i))
def oi : Option Nat → Int32
  | none => -1
  | some b => nI b
/-- what schedule leaves -/
def SchE (σ : MS) (x : SX) (u : MS) : Prop := (∀ k, mI u k = mI σ k) ∧ mF u = mF σ ∧ (∀ k, k ≤ 5 → mJ u k = mJ σ k) ∧ mJ u 11 = x.1 ∧ ∀ k, k < 24 → ∀ j, j < 5 → mq u k j = mq σ (x.2.2.1 k) j
theorem odA_at {f : Nat → Int32} {od : Nat → Nat} {k : Nat} (h : k < 24) : odA f od k = nI (od k) := by unfold odA; rw [if_pos h]
theorem odA_up {f : Nat → Int32} {od : Nat → Nat} {k b : Nat} (h : k < 24) : upd (odA f od) k (nI b) = odA f (updN od k b) := by
  funext j
  unfold upd odA updN
  by_cases e : j = k
  · rw [if_pos e, if_pos (by omega), if_pos e]
  · rw [if_neg e, if_neg e]
theorem ldP_cg {σ τ : MS} (h6 : mJ σ 6 = mJ τ 6) (h10 : mJ σ 10 = mJ τ 10) (i : Nat) : ∀ n, ldP σ i n = ldP τ i n := by
  intro n
  induction n with
  | zero => rfl
  | succ n ih => unfold ldP; rw [ih, h6, h10]
theorem ldM_cg {σ τ : MS} (h6 : mJ σ 6 = mJ τ 6) (h10 : mJ σ 10 = mJ τ 10) (i : Nat) : ldM σ i = ldM τ i := by
  unfold ldM
  rw [h6, ldP_cg h6 h10]
theorem TM_cg {σ τ : MS} (h : ∀ k j, j < 5 → mq σ k j = mq τ k j) : TM σ = TM τ := by
  funext i k
  have e : ∀ k, taQ (mq σ k) = taQ (mq τ k) ∧ fiQ (mq σ k) = fiQ (mq τ k) ∧ seQ (mq σ k) = seQ (mq τ k) ∧ mq σ k 0 = mq τ k 0 := by
    intro k
    unfold taQ fiQ seQ
    rw [h k 0 (by decide), h k 1 (by decide), h k 2 (by decide), h k 3 (by decide)]
    exact ⟨rfl, rfl, rfl, rfl⟩
  unfold TM tdM rdM
  rw [(e i).1, (e i).2.1, (e i).2.2.1, (e i).2.2.2, (e k).1, (e k).2.1, (e k).2.2.1, (e k).2.2.2]
theorem LM_cg {σ τ : MS} (h : ∀ k j, j < 5 → mq σ k j = mq τ k j) : LM σ = LM τ := by
  funext i k
  have e : ∀ k, taQ (mq σ k) = taQ (mq τ k) ∧ fiQ (mq σ k) = fiQ (mq τ k) ∧ seQ (mq σ k) = seQ (mq τ k) ∧ laQ (mq σ k) = laQ (mq τ k) := by
    intro k
    unfold taQ fiQ seQ laQ
    rw [h k 0 (by decide), h k 1 (by decide), h k 2 (by decide), h k 3 (by decide)]
    exact ⟨rfl, rfl, rfl, rfl⟩
  unfold LM LmQ rdM
  rw [(e i).1, (e i).2.2.2, (e k).2.1, (e k).2.2.1]
theorem sc_q (σ : MS) (x : SX) : ∀ k j, j < 5 → mq (scS σ x) k j = mq σ k j := by
  intro k j hj
  unfold scS
  rw [mq_tJb _ _ _ (by decide) _ _ hj, mq_tJb _ _ _ (by decide) _ _ hj, mq_tJb _ _ _ (by decide) _ _ hj]
theorem fh_sc (σ : MS) (x : SX) (e i : Nat) : hsM (scS σ x) e (e - i) = scS σ (hOut (TM σ) (LM σ) e x.1 (e - i), pzO x.2.1 e (e - i), x.2.2) := by
  have e1 : mJ (scS σ x) 11 = x.1 := rfl
  have e2 : mJ (scS σ x) 14 = x.2.1 := rfl
  unfold hsM
  rw [TM_cg (sc_q σ x), LM_cg (sc_q σ x), e1, e2]
  unfold scS
  refine MS_ext (fun k => rfl) (fun k => ?_) rfl
  simp only [mJ_tJ]
  by_cases h14 : k = 14
  · simp [h14]
  · by_cases h11 : k = 11
    · simp [h11]
    · by_cases h12 : k = 12
      · simp [h12]
      · simp [h14, h11, h12]
theorem ok_yes {σ : MS} {i k : Nat} (h1 : ¬ mJ σ 6 k ≤ 0) (h2 : ¬ 17 ≤ mJ σ 6 k) (h3 : k = i ∨ ldM σ k = false) : okE (insK σ) (ldM σ) i k = true := by
  unfold okE insK insM
  rw [if_neg (show ¬ mq σ k 0 ≤ 0 from h1), if_neg (show ¬ 17 ≤ mq σ k 0 from h2), if_pos rfl]
  by_cases e : k = i
  · rw [if_pos e]
  · rw [if_neg e, h3.resolve_left e]; rfl
theorem ok_no {σ : MS} {i k : Nat} (h : okE (insK σ) (ldM σ) i k = true) : ¬ mJ σ 6 k ≤ 0 ∧ ¬ 17 ≤ mJ σ 6 k ∧ (k = i ∨ ldM σ k = false) := by
  unfold okE insK insM at h
  by_cases h1 : mq σ k 0 ≤ 0
  · rw [if_pos h1] at h; cases h
  · rw [if_neg h1] at h
    by_cases h2 : 17 ≤ mq σ k 0
    · rw [if_pos h2] at h; cases h
    · rw [if_neg h2, if_pos rfl] at h
      refine ⟨h1, h2, ?_⟩
      by_cases e : k = i
      · exact Or.inl e
      · rw [if_neg e] at h; right; simpa using h
theorem nI_inj {a b : Nat} (ha : a < 2 ^ 31) (hb : b < 2 ^ 31) (h : nI a = nI b) : a = b := by
  have := congrArg Int32.toInt h
  rw [nI_toInt ha, nI_toInt hb] at this
  omega
theorem pz0 {p : Nat → Int32} {e i : Nat} (hi : i ≤ e) : ∀ k, i ≤ k → k < e → pzO p e (e - i) k = 0 := by
  intro k h1 h2
  unfold pzO
  rw [if_pos (by omega)]
theorem bs_no {fr : Nat → Bool} {h : Nat → Int32} {a c : Nat} (hc : a ≤ c) (hf : fr c = false) : bst fr h a (c + 1 - a) = bst fr h a (c - a) := by
  rw [show c + 1 - a = (c - a) + 1 by omega]
  have : fr (a + (c - a)) = false := by rw [show a + (c - a) = c by omega]; exact hf
  show (if fr (a + (c - a)) = true then _ else bst fr h a (c - a)) = _
  rw [if_neg (by rw [this]; decide)]
theorem bs_y {fr : Nat → Bool} {h : Nat → Int32} {a c : Nat} (hc : a ≤ c) (hf : fr c = true) : bst fr h a (c + 1 - a) = (match bst fr h a (c - a) with | none => some c | some b => if h c ≤ h b then some b else some c) := by
  rw [show c + 1 - a = (c - a) + 1 by omega]
  show (if fr (a + (c - a)) = true then (match bst fr h a (c - a) with | none => some (a + (c - a)) | some b => if h (a + (c - a)) ≤ h b then some b else some (a + (c - a))) else bst fr h a (c - a)) = _
  rw [show a + (c - a) = c by omega, if_pos hf]
theorem oi_neg {o : Option Nat} (h : oi o < 0) (hb : ∀ b, o = some b → b < 24) : o = none := by
  cases o with
  | none => rfl
  | some b =>
    have : ¬ nI b < 0 := by rw [Int32.lt_iff_toInt_lt, nI_toInt (by have := hb b rfl; omega), Int32.toInt_zero]; omega
    exact absurd h this
theorem oi_ge {o : Option Nat} (h : ¬ oi o < 0) : ∃ b, o = some b := by
  cases o with
  | none => exact absurd (by decide) h
  | some b => exact ⟨b, rfl⟩
theorem sc_step {σ : MS} {h1 : Nat → Int32} {Z : (Nat → Int32) × (Nat → Nat) × Nat} {i e k p pc kc : Nat} {S : MS} (hi : i ≤ k) (hk : k < 24) (hS : scS σ (h1, bkM (TM σ) h1 i e Z (k - i)) = S) (hp : p = pkM (TM σ) h1 i e (bkM (TM σ) h1 i e Z (k - i)).1) (hpc : pc = p) (hkc : kc = k) :
    scS σ (h1, bkM (TM σ) h1 i e Z (k + 1 - i)) = tJ (tJ S 14 (upd (mJ S 14) pc 1)) 12 (upd (mJ S 12) kc (nI p)) := by
  have e1 : mJ S 14 = (bkM (TM σ) h1 i e Z (k - i)).1 := by rw [← hS]; rfl
  have e2 : mJ S 12 = odA (mJ σ 12) (bkM (TM σ) h1 i e Z (k - i)).2.1 := by rw [← hS]; rfl
  have e3 : bkM (TM σ) h1 i e Z (k + 1 - i) = (upd (bkM (TM σ) h1 i e Z (k - i)).1 p 1, updN (bkM (TM σ) h1 i e Z (k - i)).2.1 k p, (bkM (TM σ) h1 i e Z (k - i)).2.2 + if p = k then 0 else 1) := by
    rw [show k + 1 - i = (k - i) + 1 by omega, hp]
    show (_, updN _ (i + (k - i)) _, _ + if _ = i + (k - i) then 0 else 1) = _
    rw [show i + (k - i) = k by omega]
  rw [e1, e2, hpc, hkc, odA_up hk, ← hS, e3]
  unfold scS
  refine MS_ext (fun k => rfl) (fun x => ?_) rfl
  simp only [mJ_tJ]
  by_cases h14 : x = 14
  · simp [h14]
  · by_cases h11 : x = 11
    · simp [h11]
    · by_cases h12 : x = 12
      · simp [h12]
      · simp [h14, h11, h12]
theorem bk_mv {T : Nat → Nat → Bool} {h1 : Nat → Int32} {Z : (Nat → Int32) × (Nat → Nat) × Nat} {i e k p : Nat} (hi : i ≤ k) (hp : p = pkM T h1 i e (bkM T h1 i e Z (k - i)).1) : (bkM T h1 i e Z (k + 1 - i)).2.2 = (bkM T h1 i e Z (k - i)).2.2 + if p = k then 0 else 1 := by
  rw [show k + 1 - i = (k - i) + 1 by omega, hp]
  show _ + (if _ = i + (k - i) then 0 else 1) = _
  rw [show i + (k - i) = k by omega]
/-- the order stays in range -/
def OdI (x : SX) : Prop := ∀ k, k < 24 → x.2.2.1 k < 24
theorem BM_od {σ : MS} {i : Nat} (hi : i ≤ 24) {x : SX} (h : OdI x) : OdI (BM σ i x) := by
  intro k hk
  obtain ⟨e1, e2, _, _⟩ := enE_spec (insK σ) (ldM σ) hi
  obtain ⟨b1, b2, _⟩ := bkM_od (T := TM σ) (h := hOut (TM σ) (LM σ) (enM σ i) x.1 (enM σ i - i)) (a := i) (e := enM σ i) (S := (pzO x.2.1 (enM σ i) (enM σ i - i), x.2.2)) (pz0 e1) (enM σ i - i) (by unfold enM; omega)
  show (bkM (TM σ) (hOut (TM σ) (LM σ) (enM σ i) x.1 (enM σ i - i)) i (enM σ i) (pzO x.2.1 (enM σ i) (enM σ i - i), x.2.2) (enM σ i - i)).2.1 k < 24
  by_cases hin : i ≤ k ∧ k < i + (enM σ i - i)
  · have := (b2 k hin.1 hin.2).2.1
    unfold enM at this ⊢
    omega
  · rw [b1 k hin]; exact h k hk
end MSch2
section MSch3
def KpE (σ : MS) (x : SX) (f : Nat → Int32) (j : Nat) : Prop := ∀ k, k < j → ∀ c, c < 5 → f (5 * k + c) = mq σ (x.2.2.1 k) c
theorem Kp_s {σ : MS} {x : SX} {f : Nat → Int32} {q : Nat → Int32} {j : Nat} (h : KpE σ x f j) (hq : ∀ c, c < 5 → q c = mq σ (x.2.2.1 j) c) : KpE σ x (mv5 f q j) (j + 1) := by
  intro k hk c hc
  unfold mv5 upd
  by_cases e : k = j
  · subst e
    have : c = 0 ∨ c = 1 ∨ c = 2 ∨ c = 3 ∨ c = 4 := by omega
    rcases this with rfl | rfl | rfl | rfl | rfl
    · simp; rw [← hq 0 (by decide)]
    · simp; rw [← hq 1 (by decide)]
    · simp; rw [← hq 2 (by decide)]
    · simp; rw [← hq 3 (by decide)]
    · simp; rw [← hq 4 (by decide)]
  · have h0 : ¬ 5 * k + c = 5 * j := by omega
    have h1 : ¬ 5 * k + c = 5 * j + 1 := by omega
    have h2 : ¬ 5 * k + c = 5 * j + 2 := by omega
    have h3 : ¬ 5 * k + c = 5 * j + 3 := by omega
    have h4 : ¬ 5 * k + c = 5 * j + 4 := by omega
    rw [if_neg h4, if_neg h3, if_neg h2, if_neg h1, if_neg h0]
    exact h k (by omega) c hc
/-- behind the last loop's j rounds -/
def CpE (σ : MS) (x : SX) (f : Nat → Int32) (j : Nat) (S : MS) : Prop := (∀ k, mI S k = mI σ k) ∧ mF S = mF σ ∧ (∀ k, k ≤ 5 → mJ S k = mJ σ k) ∧ mJ S 11 = x.1 ∧ mJ S 13 = f ∧ ∀ k, k < j → ∀ c, c < 5 → mJ S (6 + c) k = f (5 * k + c)
theorem Cp_s {σ : MS} {x : SX} {f : Nat → Int32} {j jc i0 i1 i2 i3 i4 : Nat} {S : MS} (h : CpE σ x f j S) (hj : jc = j) (h0 : i0 = 5 * j) (h1 : i1 = 5 * j + 1) (h2 : i2 = 5 * j + 2) (h3 : i3 = 5 * j + 3) (h4 : i4 = 5 * j + 4) :
    CpE σ x f (j + 1) (tJ (tJ (tJ (tJ (tJ S 6 (upd (mJ S 6) jc (mJ S 13 i0))) 7 (upd (mJ S 7) jc (mJ S 13 i1))) 8 (upd (mJ S 8) jc (mJ S 13 i2))) 9 (upd (mJ S 9) jc (mJ S 13 i3))) 10 (upd (mJ S 10) jc (mJ S 13 i4))) := by
  subst hj h0 h1 h2 h3 h4
  obtain ⟨a1, a2, a3, a4, a5, a6⟩ := h
  refine ⟨a1, a2, fun k hk => ?_, a4, a5, fun k hk c hc => ?_⟩
  · simp only [mJ_tJ]
    rw [if_neg (by omega), if_neg (by omega), if_neg (by omega), if_neg (by omega), if_neg (by omega)]
    exact a3 k hk
  · rw [a5]
    have : c = 0 ∨ c = 1 ∨ c = 2 ∨ c = 3 ∨ c = 4 := by omega
    by_cases e : k = jc
    · subst e
      rcases this with rfl | rfl | rfl | rfl | rfl <;> simp [mJ_tJ, upd]
    · have := a6 k (by omega) c hc
      rcases ‹c = 0 ∨ c = 1 ∨ c = 2 ∨ c = 3 ∨ c = 4› with rfl | rfl | rfl | rfl | rfl <;> simp [mJ_tJ, upd, e] <;> exact this
end MSch3
set_option maxHeartbeats 4000000 in
set_option maxRecDepth 100000 in
theorem L_Mend {l : Launch} {G : GT} {p : Program} {e : Env} {s : State} {m : MethodId} {args : Array Value} {below : List Frame} {meth : Method} {c : Code} (C : Mx l G p s m meth c b_Mo_schedule 7 (some .int) R_Mo) {σ : MS} {x : SX} (hod : OdI x) (H : Heap) (locs : List Loc) (ls : Array Slot) (hP : va_P (gD G) classes (mw G (scS σ x)) H) (hS : va_S (gA G) s.heap H locs) (hl : lv_has ls 7 [(1, .int (nI x.2.2.2)), (0, .ref (gad G 20))]) :
    W p l e (cx_room 5 114) s m args below meth c H locs 0 0 (cx_E below (gA G) (Mi G (fun r u => r = nI x.2.2.2 ∧ SchE σ x u)) Tn args s) (F0 m 201 ls []) := by
  obtain ⟨hx, hb, hml, hr, hown, hlocks, ht, g, σ0, hc⟩ := C
  have hT := g.tb hc
  have hK := g.k hc
  have hD := g.d (τ := scS σ x)
  refine lv_iconst (v := 0) hx hb d_Mo_schedule_201 (by decide) ?_
  refine lv_istore_n (lv' := [(3, .int 0), (1, .int (nI x.2.2.2)), (0, .ref (gad G 20))]) hx hb d_Mo_schedule_202 rfl hl (by decide) rfl (fun ls hl => ?_)
  have li3 : ((nI 0) : Int32) = 0 := nI_0
  refine W_for (N := 24) (fun j H locs ls => ∃ f, KpE σ x f j ∧ va_P (gD G) classes (mw G (tJ (scS σ x) 13 f)) H ∧ va_S (gA G) s.heap H locs ∧ lv_has ls 7 [(3, .int (nI j)), (1, .int (nI x.2.2.2)), (0, .ref (gad G 20))]) (fun ls => F0 m 203 ls []) (fun j H locs ls hj hJ kj => ?_) (fun H locs ls hJ => ?_) 0 _ _ _ (Nat.zero_le _) ⟨mJ (scS σ x) 13, fun k hk => absurd hk (Nat.not_lt_zero k), by rw [tJ_self]; exact hP, hS, by rw [li3]; exact lv_sub hl [0, 1, 2] rfl⟩
  · obtain ⟨f, hej, hP, hS, hl⟩ := hJ
    generalize hSj : (tJ (scS σ x) 13 f) = Sj at hP
    have hD := g.d (τ := Sj)
    have jc : (nI j).toNatClampNeg = j := nI_clamp (by omega)
    refine lv_iload_n hx hb d_Mo_schedule_203 rfl (lv_at hl 0 rfl) ?_
    refine lv_bipush (v := 24) hx hb d_Mo_schedule_204 (by decide) ?_
    refine lv_icmp_ge (tgt := 226) hx hb d_Mo_schedule_206 (by decide) (fun c206 => ?_) (fun c206 => ?_)
    · exact absurd c206 (nI_ge hj (by decide))
    · refine lv_aload_n hx hb d_Mo_schedule_209 rfl (lv_at hl 2 rfl) ?_
      refine lv_iload_n hx hb d_Mo_schedule_210 rfl (lv_at hl 0 rfl) ?_
      refine lv_aload_n hx hb d_Mo_schedule_211 rfl (lv_at hl 2 rfl) ?_
      refine va_get (D := gD G) (ci := 7) (v := .ref (gad G 35)) (C := R_Mo) (T := F_Mo) (N := 29) hx hb (wl_Mo hT) (fun _ h9 => h9) hown hK hP 0 rfl rfl 14 (by decide) (k_584 hT) (fun _ h9 => h9) rfl d_Mo_schedule_212 ?_
      refine lv_iload_n hx hb d_Mo_schedule_215 rfl (lv_at hl 0 rfl) ?_
      refine va_iald (f := (mJ Sj 12)) hx hb hK hP 15 0 rfl rfl (vp_in_nI hj (by decide)) d_Mo_schedule_216 ?_
      refine W.eq (g2 := F0 m 217 ls [.int (nI (x.2.2.1 j)), .int (nI j), .ref (gad G 20)]) (by rw [show (mJ Sj 12) (nI j).toNatClampNeg = nI (x.2.2.1 j) by rw [jc, ← hSj]; exact odA_at hj]) ?_
      refine cx_V (n := 2) (C := R_Mo) (As := [.int (nI j), .int (nI (x.2.2.1 j))]) (rest := []) ⟨hx, hb, hml, hown, fun _ h9 => nomatch h9⟩ (K_Mo_move g Sj hj (hod j hj)) (k_767 hT) (k_769 hT) (ks_37 hT) (k_770 hT) (k_9 hT) rfl (by decide +kernel) (va_recv hK hP (ci := 7) (q0 := 0) rfl rfl) (hc.at g hS hP) ⟨by decide, by decide⟩ ⟨by decide, by decide⟩ hl.1 (Nat.le_of_ble_eq_true rfl) d_Mo_schedule_217 (fun _ h9 => h9) hS (fun _ _ _ _ _ _ _ h9 => h9.elim) (fun v t H locs ht9 hRt hz hk hS => ?_)
      obtain ⟨u, rfl, eu, hP⟩ := hRt
      rw [eu, ht9] at hP
      have hD : va_D (gA G) (mw G (tJ Sj 13 (mv5 (mJ Sj 13) (mq Sj (x.2.2.1 j)) j))) := g.d
      refine W.eq (g2 := F0 m 220 ls []) rfl ?_
      refine lv_iinc (v := ((nI j) + 1)) (lv' := [(3, .int ((nI j) + 1)), (1, .int (nI x.2.2.2)), (0, .ref (gad G 20))]) hx hb d_Mo_schedule_220 hl (k := 0) rfl rfl (by decide) rfl (fun ls hl => ?_)
      refine lv_goto (tgt := 203) hx hb d_Mo_schedule_223 (by decide) ?_
      rw [← hSj, tJ_tJ] at hP
      have lb3 : ((nI (j + 1)) : Int32) = ((nI j) + 1) := (nI_1 _).symm
      exact kj _ _ _ ⟨_, (Kp_s hej (fun c hc => by rw [mq_tJb _ _ _ (by decide) _ _ hc, sc_q σ x _ _ hc])), hP, hS, by rw [lb3]; exact lv_sub hl [0, 1, 2] rfl⟩
  · obtain ⟨f, hej, hP, hS, hl⟩ := hJ
    generalize hSj : (tJ (scS σ x) 13 f) = Sj at hP
    have hD := g.d (τ := Sj)
    refine lv_iload_n hx hb d_Mo_schedule_203 rfl (lv_at hl 0 rfl) ?_
    refine lv_bipush (v := 24) hx hb d_Mo_schedule_204 (by decide) ?_
    refine lv_icmp_ge (tgt := 226) hx hb d_Mo_schedule_206 (by decide) (fun c206 => ?_) (fun c206 => ?_)
    · have hf := hej
      refine lv_iconst (v := 0) hx hb d_Mo_schedule_226 (by decide) ?_
      refine lv_istore_n (lv' := [(3, .int 0), (1, .int (nI x.2.2.2)), (0, .ref (gad G 20))]) hx hb d_Mo_schedule_227 rfl hl (by decide) rfl (fun ls hl => ?_)
      have li3 : ((nI 0) : Int32) = 0 := nI_0
      refine W_for (N := 24) (fun j H locs ls => ∃ S, CpE σ x f j S ∧ va_P (gD G) classes (mw G S) H ∧ va_S (gA G) s.heap H locs ∧ lv_has ls 7 [(3, .int (nI j)), (1, .int (nI x.2.2.2)), (0, .ref (gad G 20))]) (fun ls => F0 m 228 ls []) (fun j H locs ls hj hJ kj => ?_) (fun H locs ls hJ => ?_) 0 _ _ _ (Nat.zero_le _) ⟨Sj, ⟨fun k => by rw [← hSj]; rfl, by rw [← hSj]; rfl, fun k hk => by rw [← hSj]; unfold scS; simp only [mJ_tJ]; rw [if_neg (by omega), if_neg (by omega), if_neg (by omega), if_neg (by omega)], by rw [← hSj]; rfl, by rw [← hSj]; rfl, fun k hk => absurd hk (Nat.not_lt_zero k)⟩, hP, hS, by rw [li3]; exact lv_sub hl [0, 1, 2] rfl⟩
      · obtain ⟨S, hej, hP, hS, hl⟩ := hJ
        have hD := g.d (τ := S)
        have jc : (nI j).toNatClampNeg = j := nI_clamp (by omega)
        refine lv_iload_n hx hb d_Mo_schedule_228 rfl (lv_at hl 0 rfl) ?_
        refine lv_bipush (v := 24) hx hb d_Mo_schedule_229 (by decide) ?_
        refine lv_icmp_ge (tgt := 318) hx hb d_Mo_schedule_231 (by decide) (fun c231 => ?_) (fun c231 => ?_)
        · exact absurd c231 (nI_ge hj (by decide))
        · refine lv_aload_n hx hb d_Mo_schedule_234 rfl (lv_at hl 2 rfl) ?_
          refine va_get (D := gD G) (ci := 7) (v := .ref (gad G 21)) (C := R_Mo) (T := F_Mo) (N := 29) hx hb (wl_Mo hT) (fun _ h9 => h9) hown hK hP 0 rfl rfl 0 (by decide) (k_570 hT) (fun _ h9 => h9) rfl d_Mo_schedule_235 ?_
          refine lv_iload_n hx hb d_Mo_schedule_238 rfl (lv_at hl 0 rfl) ?_
          refine lv_aload_n hx hb d_Mo_schedule_239 rfl (lv_at hl 2 rfl) ?_
          refine va_get (D := gD G) (ci := 7) (v := .ref (gad G 36)) (C := R_Mo) (T := F_Mo) (N := 29) hx hb (wl_Mo hT) (fun _ h9 => h9) hown hK hP 0 rfl rfl 15 (by decide) (k_585 hT) (fun _ h9 => h9) rfl d_Mo_schedule_240 ?_
          refine lv_iload_n hx hb d_Mo_schedule_243 rfl (lv_at hl 0 rfl) ?_
          refine lv_iconst (v := 5) hx hb d_Mo_schedule_244 (by decide) ?_
          refine lv_imul hx hb d_Mo_schedule_245 ?_
          refine va_iald (f := (mJ S 13)) hx hb hK hP 16 0 rfl rfl ((m5_in j hj).1) d_Mo_schedule_246 ?_
          refine va_iast (f := (mJ S 6)) hx hb hK hP hD hS 1 0 rfl rfl (vp_in_nI hj (by decide)) d_Mo_schedule_247 (fun H locs hP hD hS => ?_)
          have hP : va_P (gD G) classes (mw G (tJ S 6 (upd (mJ S 6) (nI j).toNatClampNeg ((mJ S 13) ((nI j) * 5).toNatClampNeg)))) H := by have h9 := hP; rw [mwS_J6] at h9; exact h9
          have hD : va_D (gA G) (mw G (tJ S 6 (upd (mJ S 6) (nI j).toNatClampNeg ((mJ S 13) ((nI j) * 5).toNatClampNeg)))) := g.d
          refine lv_aload_n hx hb d_Mo_schedule_248 rfl (lv_at hl 2 rfl) ?_
          refine va_get (D := gD G) (ci := 7) (v := .ref (gad G 22)) (C := R_Mo) (T := F_Mo) (N := 29) hx hb (wl_Mo hT) (fun _ h9 => h9) hown hK hP 0 rfl rfl 1 (by decide) (k_571 hT) (fun _ h9 => h9) rfl d_Mo_schedule_249 ?_
          refine lv_iload_n hx hb d_Mo_schedule_252 rfl (lv_at hl 0 rfl) ?_
          refine lv_aload_n hx hb d_Mo_schedule_253 rfl (lv_at hl 2 rfl) ?_
          refine va_get (D := gD G) (ci := 7) (v := .ref (gad G 36)) (C := R_Mo) (T := F_Mo) (N := 29) hx hb (wl_Mo hT) (fun _ h9 => h9) hown hK hP 0 rfl rfl 15 (by decide) (k_585 hT) (fun _ h9 => h9) rfl d_Mo_schedule_254 ?_
          refine lv_iload_n hx hb d_Mo_schedule_257 rfl (lv_at hl 0 rfl) ?_
          refine lv_iconst (v := 5) hx hb d_Mo_schedule_258 (by decide) ?_
          refine lv_imul hx hb d_Mo_schedule_259 ?_
          refine lv_iconst (v := 1) hx hb d_Mo_schedule_260 (by decide) ?_
          refine lv_iadd hx hb d_Mo_schedule_261 ?_
          refine va_iald (f := (mJ S 13)) hx hb hK hP 16 0 rfl rfl ((m5_in j hj).2.1) d_Mo_schedule_262 ?_
          refine va_iast (f := (mJ S 7)) hx hb hK hP hD hS 2 0 rfl rfl (vp_in_nI hj (by decide)) d_Mo_schedule_263 (fun H locs hP hD hS => ?_)
          have hP : va_P (gD G) classes (mw G (tJ (tJ S 6 (upd (mJ S 6) (nI j).toNatClampNeg ((mJ S 13) ((nI j) * 5).toNatClampNeg))) 7 (upd (mJ S 7) (nI j).toNatClampNeg ((mJ S 13) (((nI j) * 5) + 1).toNatClampNeg)))) H := by have h9 := hP; rw [mwS_J7] at h9; exact h9
          have hD : va_D (gA G) (mw G (tJ (tJ S 6 (upd (mJ S 6) (nI j).toNatClampNeg ((mJ S 13) ((nI j) * 5).toNatClampNeg))) 7 (upd (mJ S 7) (nI j).toNatClampNeg ((mJ S 13) (((nI j) * 5) + 1).toNatClampNeg)))) := g.d
          refine lv_aload_n hx hb d_Mo_schedule_264 rfl (lv_at hl 2 rfl) ?_
          refine va_get (D := gD G) (ci := 7) (v := .ref (gad G 23)) (C := R_Mo) (T := F_Mo) (N := 29) hx hb (wl_Mo hT) (fun _ h9 => h9) hown hK hP 0 rfl rfl 2 (by decide) (k_572 hT) (fun _ h9 => h9) rfl d_Mo_schedule_265 ?_
          refine lv_iload_n hx hb d_Mo_schedule_268 rfl (lv_at hl 0 rfl) ?_
          refine lv_aload_n hx hb d_Mo_schedule_269 rfl (lv_at hl 2 rfl) ?_
          refine va_get (D := gD G) (ci := 7) (v := .ref (gad G 36)) (C := R_Mo) (T := F_Mo) (N := 29) hx hb (wl_Mo hT) (fun _ h9 => h9) hown hK hP 0 rfl rfl 15 (by decide) (k_585 hT) (fun _ h9 => h9) rfl d_Mo_schedule_270 ?_
          refine lv_iload_n hx hb d_Mo_schedule_273 rfl (lv_at hl 0 rfl) ?_
          refine lv_iconst (v := 5) hx hb d_Mo_schedule_274 (by decide) ?_
          refine lv_imul hx hb d_Mo_schedule_275 ?_
          refine lv_iconst (v := 2) hx hb d_Mo_schedule_276 (by decide) ?_
          refine lv_iadd hx hb d_Mo_schedule_277 ?_
          refine va_iald (f := (mJ S 13)) hx hb hK hP 16 0 rfl rfl ((m5_in j hj).2.2.1) d_Mo_schedule_278 ?_
          refine va_iast (f := (mJ S 8)) hx hb hK hP hD hS 3 0 rfl rfl (vp_in_nI hj (by decide)) d_Mo_schedule_279 (fun H locs hP hD hS => ?_)
          have hP : va_P (gD G) classes (mw G (tJ (tJ (tJ S 6 (upd (mJ S 6) (nI j).toNatClampNeg ((mJ S 13) ((nI j) * 5).toNatClampNeg))) 7 (upd (mJ S 7) (nI j).toNatClampNeg ((mJ S 13) (((nI j) * 5) + 1).toNatClampNeg))) 8 (upd (mJ S 8) (nI j).toNatClampNeg ((mJ S 13) (((nI j) * 5) + 2).toNatClampNeg)))) H := by have h9 := hP; rw [mwS_J8] at h9; exact h9
          have hD : va_D (gA G) (mw G (tJ (tJ (tJ S 6 (upd (mJ S 6) (nI j).toNatClampNeg ((mJ S 13) ((nI j) * 5).toNatClampNeg))) 7 (upd (mJ S 7) (nI j).toNatClampNeg ((mJ S 13) (((nI j) * 5) + 1).toNatClampNeg))) 8 (upd (mJ S 8) (nI j).toNatClampNeg ((mJ S 13) (((nI j) * 5) + 2).toNatClampNeg)))) := g.d
          refine lv_aload_n hx hb d_Mo_schedule_280 rfl (lv_at hl 2 rfl) ?_
          refine va_get (D := gD G) (ci := 7) (v := .ref (gad G 24)) (C := R_Mo) (T := F_Mo) (N := 29) hx hb (wl_Mo hT) (fun _ h9 => h9) hown hK hP 0 rfl rfl 3 (by decide) (k_573 hT) (fun _ h9 => h9) rfl d_Mo_schedule_281 ?_
          refine lv_iload_n hx hb d_Mo_schedule_284 rfl (lv_at hl 0 rfl) ?_
          refine lv_aload_n hx hb d_Mo_schedule_285 rfl (lv_at hl 2 rfl) ?_
          refine va_get (D := gD G) (ci := 7) (v := .ref (gad G 36)) (C := R_Mo) (T := F_Mo) (N := 29) hx hb (wl_Mo hT) (fun _ h9 => h9) hown hK hP 0 rfl rfl 15 (by decide) (k_585 hT) (fun _ h9 => h9) rfl d_Mo_schedule_286 ?_
          refine lv_iload_n hx hb d_Mo_schedule_289 rfl (lv_at hl 0 rfl) ?_
          refine lv_iconst (v := 5) hx hb d_Mo_schedule_290 (by decide) ?_
          refine lv_imul hx hb d_Mo_schedule_291 ?_
          refine lv_iconst (v := 3) hx hb d_Mo_schedule_292 (by decide) ?_
          refine lv_iadd hx hb d_Mo_schedule_293 ?_
          refine va_iald (f := (mJ S 13)) hx hb hK hP 16 0 rfl rfl ((m5_in j hj).2.2.2.1) d_Mo_schedule_294 ?_
          refine va_iast (f := (mJ S 9)) hx hb hK hP hD hS 4 0 rfl rfl (vp_in_nI hj (by decide)) d_Mo_schedule_295 (fun H locs hP hD hS => ?_)
          have hP : va_P (gD G) classes (mw G (tJ (tJ (tJ (tJ S 6 (upd (mJ S 6) (nI j).toNatClampNeg ((mJ S 13) ((nI j) * 5).toNatClampNeg))) 7 (upd (mJ S 7) (nI j).toNatClampNeg ((mJ S 13) (((nI j) * 5) + 1).toNatClampNeg))) 8 (upd (mJ S 8) (nI j).toNatClampNeg ((mJ S 13) (((nI j) * 5) + 2).toNatClampNeg))) 9 (upd (mJ S 9) (nI j).toNatClampNeg ((mJ S 13) (((nI j) * 5) + 3).toNatClampNeg)))) H := by have h9 := hP; rw [mwS_J9] at h9; exact h9
          have hD : va_D (gA G) (mw G (tJ (tJ (tJ (tJ S 6 (upd (mJ S 6) (nI j).toNatClampNeg ((mJ S 13) ((nI j) * 5).toNatClampNeg))) 7 (upd (mJ S 7) (nI j).toNatClampNeg ((mJ S 13) (((nI j) * 5) + 1).toNatClampNeg))) 8 (upd (mJ S 8) (nI j).toNatClampNeg ((mJ S 13) (((nI j) * 5) + 2).toNatClampNeg))) 9 (upd (mJ S 9) (nI j).toNatClampNeg ((mJ S 13) (((nI j) * 5) + 3).toNatClampNeg)))) := g.d
          refine lv_aload_n hx hb d_Mo_schedule_296 rfl (lv_at hl 2 rfl) ?_
          refine va_get (D := gD G) (ci := 7) (v := .ref (gad G 25)) (C := R_Mo) (T := F_Mo) (N := 29) hx hb (wl_Mo hT) (fun _ h9 => h9) hown hK hP 0 rfl rfl 4 (by decide) (k_574 hT) (fun _ h9 => h9) rfl d_Mo_schedule_297 ?_
          refine lv_iload_n hx hb d_Mo_schedule_300 rfl (lv_at hl 0 rfl) ?_
          refine lv_aload_n hx hb d_Mo_schedule_301 rfl (lv_at hl 2 rfl) ?_
          refine va_get (D := gD G) (ci := 7) (v := .ref (gad G 36)) (C := R_Mo) (T := F_Mo) (N := 29) hx hb (wl_Mo hT) (fun _ h9 => h9) hown hK hP 0 rfl rfl 15 (by decide) (k_585 hT) (fun _ h9 => h9) rfl d_Mo_schedule_302 ?_
          refine lv_iload_n hx hb d_Mo_schedule_305 rfl (lv_at hl 0 rfl) ?_
          refine lv_iconst (v := 5) hx hb d_Mo_schedule_306 (by decide) ?_
          refine lv_imul hx hb d_Mo_schedule_307 ?_
          refine lv_iconst (v := 4) hx hb d_Mo_schedule_308 (by decide) ?_
          refine lv_iadd hx hb d_Mo_schedule_309 ?_
          refine va_iald (f := (mJ S 13)) hx hb hK hP 16 0 rfl rfl ((m5_in j hj).2.2.2.2) d_Mo_schedule_310 ?_
          refine va_iast (f := (mJ S 10)) hx hb hK hP hD hS 5 0 rfl rfl (vp_in_nI hj (by decide)) d_Mo_schedule_311 (fun H locs hP hD hS => ?_)
          have hP : va_P (gD G) classes (mw G (tJ (tJ (tJ (tJ (tJ S 6 (upd (mJ S 6) (nI j).toNatClampNeg ((mJ S 13) ((nI j) * 5).toNatClampNeg))) 7 (upd (mJ S 7) (nI j).toNatClampNeg ((mJ S 13) (((nI j) * 5) + 1).toNatClampNeg))) 8 (upd (mJ S 8) (nI j).toNatClampNeg ((mJ S 13) (((nI j) * 5) + 2).toNatClampNeg))) 9 (upd (mJ S 9) (nI j).toNatClampNeg ((mJ S 13) (((nI j) * 5) + 3).toNatClampNeg))) 10 (upd (mJ S 10) (nI j).toNatClampNeg ((mJ S 13) (((nI j) * 5) + 4).toNatClampNeg)))) H := by have h9 := hP; rw [mwS_J10] at h9; exact h9
          have hD : va_D (gA G) (mw G (tJ (tJ (tJ (tJ (tJ S 6 (upd (mJ S 6) (nI j).toNatClampNeg ((mJ S 13) ((nI j) * 5).toNatClampNeg))) 7 (upd (mJ S 7) (nI j).toNatClampNeg ((mJ S 13) (((nI j) * 5) + 1).toNatClampNeg))) 8 (upd (mJ S 8) (nI j).toNatClampNeg ((mJ S 13) (((nI j) * 5) + 2).toNatClampNeg))) 9 (upd (mJ S 9) (nI j).toNatClampNeg ((mJ S 13) (((nI j) * 5) + 3).toNatClampNeg))) 10 (upd (mJ S 10) (nI j).toNatClampNeg ((mJ S 13) (((nI j) * 5) + 4).toNatClampNeg)))) := g.d
          refine lv_iinc (v := ((nI j) + 1)) (lv' := [(3, .int ((nI j) + 1)), (1, .int (nI x.2.2.2)), (0, .ref (gad G 20))]) hx hb d_Mo_schedule_312 hl (k := 0) rfl rfl (by decide) rfl (fun ls hl => ?_)
          refine lv_goto (tgt := 228) hx hb d_Mo_schedule_315 (by decide) ?_
          have lb3 : ((nI (j + 1)) : Int32) = ((nI j) + 1) := (nI_1 _).symm
          exact kj _ _ _ ⟨_, (Cp_s hej jc (m5_c j hj).1 (m5_c j hj).2.1 (m5_c j hj).2.2.1 (m5_c j hj).2.2.2.1 (m5_c j hj).2.2.2.2), hP, hS, by rw [lb3]; exact lv_sub hl [0, 1, 2] rfl⟩
      · obtain ⟨S, hej, hP, hS, hl⟩ := hJ
        have hD := g.d (τ := S)
        refine lv_iload_n hx hb d_Mo_schedule_228 rfl (lv_at hl 0 rfl) ?_
        refine lv_bipush (v := 24) hx hb d_Mo_schedule_229 (by decide) ?_
        refine lv_icmp_ge (tgt := 318) hx hb d_Mo_schedule_231 (by decide) (fun c231 => ?_) (fun c231 => ?_)
        · refine lv_iload_n hx hb d_Mo_schedule_318 rfl (lv_at hl 1 rfl) ?_
          exact mend_i (u := S) hx hb hr hlocks hS hP d_Mo_schedule_319 (⟨rfl, hej.1, hej.2.1, hej.2.2.1, hej.2.2.2.1, fun k hk c hc => (hej.2.2.2.2.2 k hk c hc).trans (hf k hk c hc)⟩)
        · exact absurd (nI_le (Nat.le_refl _) (by decide)) c231
    · exact absurd (nI_le (Nat.le_refl _) (by decide)) c206
set_option maxHeartbeats 8000000 in
set_option maxRecDepth 100000 in
theorem L_Msch {l : Launch} {G : GT} {p : Program} {e : Env} {s : State} {m : MethodId} {args : Array Value} {below : List Frame} {meth : Method} {c : Code} (C : Mx l G p s m meth c b_Mo_schedule 7 (some .int) R_Mo) {σ : MS} : ∀ (f i : Nat) (x : SX) (H : Heap) (locs : List Loc) (ls : Array Slot), 24 ≤ i + f → i ≤ 24 → OdI x → va_P (gD G) classes (mw G (scS σ x)) H → va_S (gA G) s.heap H locs → lv_has ls 7 [(1, .int (nI x.2.2.2)), (2, .int (nI i)), (0, .ref (gad G 20))] →
    W p l e (cx_room 5 114) s m args below meth c H locs 0 0 (cx_E below (gA G) (Mi G (fun r u => r = nI (ouM (BM σ) (enM σ) f i x).2.2.2 ∧ SchE σ (ouM (BM σ) (enM σ) f i x) u)) Tn args s) (F0 m 30 ls []) := by
  obtain ⟨hx, hb, hml, hr, hown, hlocks, ht, g, σ0, hc⟩ := C
  have hT := g.tb hc
  have hK := g.k hc
  intro f
  induction f with
  | zero =>
    intro i x H locs ls hf hi hod hP hS hl
    have hD := g.d (τ := scS σ x)
    refine lv_iload_n hx hb d_Mo_schedule_30 rfl (lv_at hl 1 rfl) ?_
    refine lv_bipush (v := 24) hx hb d_Mo_schedule_31 (by decide) ?_
    refine lv_icmp_ge (tgt := 201) hx hb d_Mo_schedule_33 (by decide) (fun c33 => ?_) (fun c33 => ?_)
    · have hmx : ouM (BM σ) (enM σ) 0 i x = x := by
        rfl
      rw [hmx]
      exact L_Mend ⟨hx, hb, hml, hr, hown, hlocks, ht, g, σ0, hc⟩ hod H locs ls hP hS (lv_sub hl [0, 2] rfl)
    · exact absurd (nI_le (show 24 ≤ i by omega) (by omega)) c33
  | succ f ih =>
    intro i x H locs ls hf hi hod hP hS hl
    have hD := g.d (τ := scS σ x)
    refine lv_iload_n hx hb d_Mo_schedule_30 rfl (lv_at hl 1 rfl) ?_
    refine lv_bipush (v := 24) hx hb d_Mo_schedule_31 (by decide) ?_
    refine lv_icmp_ge (tgt := 201) hx hb d_Mo_schedule_33 (by decide) (fun c33 => ?_) (fun c33 => ?_)
    · have hmx : ouM (BM σ) (enM σ) (f + 1) i x = x := by
        show (if i < 24 then ouM (BM σ) (enM σ) f (if i < enM σ i then enM σ i else i + 1) (BM σ i x) else x) = x
        rw [if_neg (fun z => absurd c33 (nI_ge z (by decide)))]
      rw [hmx]
      exact L_Mend ⟨hx, hb, hml, hr, hown, hlocks, ht, g, σ0, hc⟩ hod H locs ls hP hS (lv_sub hl [0, 2] rfl)
    · have hi24 : i < 24 := Nat.lt_of_not_le (fun z => c33 (nI_le z (by omega)))
      obtain ⟨e0, hE0⟩ : ∃ e0, e0 = enM σ i := ⟨_, rfl⟩
      obtain ⟨hE1, hE2, hE3, hE4⟩ := enE_spec (insK σ) (ldM σ) (i := i) (by omega)
      rw [show enE (insK σ) (ldM σ) i = e0 from hE0.symm] at hE1 hE2 hE3 hE4
      have ec : (nI e0).toNatClampNeg = e0 := nI_clamp (by omega)
      refine lv_iload_n hx hb d_Mo_schedule_36 rfl (lv_at hl 1 rfl) ?_
      refine lv_istore_n (lv' := [(3, .int (nI i)), (1, .int (nI x.2.2.2)), (2, .int (nI i)), (0, .ref (gad G 20))]) hx hb d_Mo_schedule_37 rfl hl (by decide) rfl (fun ls hl => ?_)
      refine W_for (N := e0) (fun j H locs ls => (i ≤ j) ∧ va_P (gD G) classes (mw G (scS σ x)) H ∧ va_S (gA G) s.heap H locs ∧ lv_has ls 7 [(3, .int (nI j)), (1, .int (nI x.2.2.2)), (2, .int (nI i)), (0, .ref (gad G 20))]) (fun ls => F0 m 38 ls []) (fun j H locs ls hj hJ kj => ?_) (fun H locs ls hJ => ?_) i _ _ _ hE1 ⟨Nat.le_refl _, hP, hS, by exact lv_sub hl [0, 1, 2, 3] rfl⟩
      · obtain ⟨hej, hP, hS, hl⟩ := hJ
        have hD := g.d (τ := (scS σ x))
        have jc : (nI j).toNatClampNeg = j := nI_clamp (by omega)
        have hok := ok_no (hE3 j hej hj)
        refine lv_iload_n hx hb d_Mo_schedule_38 rfl (lv_at hl 0 rfl) ?_
        refine lv_bipush (v := 24) hx hb d_Mo_schedule_39 (by decide) ?_
        refine lv_icmp_ge (tgt := 83) hx hb d_Mo_schedule_41 (by decide) (fun c41 => ?_) (fun c41 => ?_)
        · exact absurd c41 (nI_ge (a := j) (b := 24) (by omega) (by decide))
        · refine lv_aload_n hx hb d_Mo_schedule_44 rfl (lv_at hl 3 rfl) ?_
          refine va_get (D := gD G) (ci := 7) (v := .ref (gad G 21)) (C := R_Mo) (T := F_Mo) (N := 29) hx hb (wl_Mo hT) (fun _ h9 => h9) hown hK hP 0 rfl rfl 0 (by decide) (k_570 hT) (fun _ h9 => h9) rfl d_Mo_schedule_45 ?_
          refine lv_iload_n hx hb d_Mo_schedule_48 rfl (lv_at hl 0 rfl) ?_
          refine va_iald (f := (mJ (scS σ x) 6)) hx hb hK hP 1 0 rfl rfl (vp_in_nI (by omega) (by decide)) d_Mo_schedule_49 ?_
          refine lv_if_le (tgt := 83) hx hb d_Mo_schedule_50 (by decide) (fun c50 => ?_) (fun c50 => ?_)
          · exact absurd c50 (by rw [jc]; exact hok.1)
          · refine lv_aload_n hx hb d_Mo_schedule_53 rfl (lv_at hl 3 rfl) ?_
            refine va_get (D := gD G) (ci := 7) (v := .ref (gad G 21)) (C := R_Mo) (T := F_Mo) (N := 29) hx hb (wl_Mo hT) (fun _ h9 => h9) hown hK hP 0 rfl rfl 0 (by decide) (k_570 hT) (fun _ h9 => h9) rfl d_Mo_schedule_54 ?_
            refine lv_iload_n hx hb d_Mo_schedule_57 rfl (lv_at hl 0 rfl) ?_
            refine va_iald (f := (mJ (scS σ x) 6)) hx hb hK hP 1 0 rfl rfl (vp_in_nI (by omega) (by decide)) d_Mo_schedule_58 ?_
            refine lv_bipush (v := 17) hx hb d_Mo_schedule_59 (by decide) ?_
            refine lv_icmp_ge (tgt := 83) hx hb d_Mo_schedule_61 (by decide) (fun c61 => ?_) (fun c61 => ?_)
            · exact absurd c61 (by rw [jc]; exact hok.2.1)
            · refine lv_iload_n hx hb d_Mo_schedule_64 rfl (lv_at hl 0 rfl) ?_
              refine lv_iload_n hx hb d_Mo_schedule_65 rfl (lv_at hl 2 rfl) ?_
              refine lv_icmp_eq (tgt := 77) hx hb d_Mo_schedule_66 (by decide) (fun c66 => ?_) (fun c66 => ?_)
              · refine lv_iinc (v := ((nI j) + 1)) (lv' := [(3, .int ((nI j) + 1)), (1, .int (nI x.2.2.2)), (2, .int (nI i)), (0, .ref (gad G 20))]) hx hb d_Mo_schedule_77 hl (k := 0) rfl rfl (by decide) rfl (fun ls hl => ?_)
                refine lv_goto (tgt := 38) hx hb d_Mo_schedule_80 (by decide) ?_
                have lb3 : ((nI (j + 1)) : Int32) = ((nI j) + 1) := (nI_1 _).symm
                exact kj _ _ _ ⟨(by omega), hP, hS, by rw [lb3]; exact lv_sub hl [0, 1, 2, 3] rfl⟩
              · refine lv_aload_n hx hb d_Mo_schedule_69 rfl (lv_at hl 3 rfl) ?_
                refine lv_iload_n hx hb d_Mo_schedule_70 rfl (lv_at hl 0 rfl) ?_
                refine cx_V (n := 1) (C := R_Mo) (As := [.int (nI j)]) (rest := []) ⟨hx, hb, hml, hown, fun _ h9 => nomatch h9⟩ (K_Mo_leader g (scS σ x) (by omega)) (k_747 hT) (k_749 hT) (ks_32 hT) (k_750 hT) (k_9 hT) rfl (by decide +kernel) (va_recv hK hP (ci := 7) (q0 := 0) rfl rfl) (hc.at g hS hP) ⟨by decide, by decide⟩ ⟨by decide, by decide⟩ hl.1 (Nat.le_of_ble_eq_true rfl) d_Mo_schedule_71 (fun _ h9 => h9) hS (fun _ _ _ _ _ _ _ h9 => h9.elim) (fun v t H locs ht9 hRt hz hk hS => ?_)
                obtain ⟨r, u, rfl, ⟨er, eu⟩, hP⟩ := hRt
                subst er
                rw [eu, ht9] at hP
                have hD : va_D (gA G) (mw G (scS σ x)) := g.d
                refine W.eq (g2 := F0 m 74 ls [.int (b2i (ldM (scS σ x) j))]) rfl ?_
                refine lv_if_ne (tgt := 83) hx hb d_Mo_schedule_74 (by decide) (fun c74 => ?_) (fun c74 => ?_)
                · exact absurd (b2i1 c74) (by rw [ldM_cg (σ := scS σ x) (τ := σ) rfl rfl, hok.2.2.resolve_left (fun z => c66 (by rw [z]))]; decide)
                · have c74 := b2i0 c74
                  refine lv_iinc (v := ((nI j) + 1)) (lv' := [(3, .int ((nI j) + 1)), (1, .int (nI x.2.2.2)), (2, .int (nI i)), (0, .ref (gad G 20))]) hx hb d_Mo_schedule_77 hl (k := 0) rfl rfl (by decide) rfl (fun ls hl => ?_)
                  refine lv_goto (tgt := 38) hx hb d_Mo_schedule_80 (by decide) ?_
                  have lb3 : ((nI (j + 1)) : Int32) = ((nI j) + 1) := (nI_1 _).symm
                  exact kj _ _ _ ⟨(by omega), hP, hS, by rw [lb3]; exact lv_sub hl [0, 1, 2, 3] rfl⟩
      · obtain ⟨hej, hP, hS, hl⟩ := hJ
        have hD := g.d (τ := (scS σ x))
        refine lv_iload_n hx hb d_Mo_schedule_38 rfl (lv_at hl 0 rfl) ?_
        refine lv_bipush (v := 24) hx hb d_Mo_schedule_39 (by decide) ?_
        refine W_jh (α := Unit) (P := fun _ H locs ls => va_P (gD G) classes (mw G (scS σ x)) H ∧ va_S (gA G) s.heap H locs ∧ lv_has ls 7 [(3, .int (nI e0)), (1, .int (nI x.2.2.2)), (2, .int (nI i)), (0, .ref (gad G 20))]) (fun _ ls => F0 m 83 ls []) (fun _ H locs ls hJ => ?_) (fun J41 => ?_)
        · obtain ⟨hP, hS, hl⟩ := hJ
          have hD := g.d (τ := (scS σ x))
          refine lv_aload_n hx hb d_Mo_schedule_83 rfl (lv_at hl 3 rfl) ?_
          refine lv_iload_n hx hb d_Mo_schedule_84 rfl (lv_at hl 2 rfl) ?_
          refine lv_iload_n hx hb d_Mo_schedule_85 rfl (lv_at hl 0 rfl) ?_
          refine cx_V (n := 2) (C := R_Mo) (As := [.int (nI i), .int (nI e0)]) (rest := []) ⟨hx, hb, hml, hown, fun _ h9 => nomatch h9⟩ (K_Mo_findHeights g (scS σ x) hE1 hE2) (k_751 hT) (k_753 hT) (ks_33 hT) (k_754 hT) (k_9 hT) rfl (by decide +kernel) (va_recv hK hP (ci := 7) (q0 := 0) rfl rfl) (hc.at g hS hP) ⟨by decide, by decide⟩ ⟨by decide, by decide⟩ hl.1 (Nat.le_of_ble_eq_true rfl) d_Mo_schedule_86 (fun _ h9 => h9) hS (fun _ _ _ _ _ _ _ h9 => h9.elim) (fun v t H locs ht9 hRt hz hk hS => ?_)
          obtain ⟨u, rfl, eu, hP⟩ := hRt
          rw [eu, ht9] at hP
          have hD : va_D (gA G) (mw G (hsM (scS σ x) e0 (e0 - i))) := g.d
          refine W.eq (g2 := F0 m 89 ls []) rfl ?_
          rw [fh_sc] at hP
          have hD := g.d (τ := (scS σ ((hOut (TM σ) (LM σ) e0 x.1 (e0 - i)), (pzO x.2.1 e0 (e0 - i), x.2.2))))
          refine lv_iload_n hx hb d_Mo_schedule_89 rfl (lv_at hl 2 rfl) ?_
          refine lv_istore (lv' := [(4, .int (nI i)), (3, .int (nI e0)), (1, .int (nI x.2.2.2)), (2, .int (nI i)), (0, .ref (gad G 20))]) hx hb d_Mo_schedule_90 hl (by decide) rfl (fun ls hl => ?_)
          have li1 : ((nI (bkM (TM σ) (hOut (TM σ) (LM σ) e0 x.1 (e0 - i)) i e0 (pzO x.2.1 e0 (e0 - i), x.2.2) (i - i)).2.2) : Int32) = (nI x.2.2.2) := by rw [Nat.sub_self]; rfl
          refine W_for (N := e0) (fun k H locs ls => (i ≤ k) ∧ va_P (gD G) classes (mw G (scS σ ((hOut (TM σ) (LM σ) e0 x.1 (e0 - i)), (bkM (TM σ) (hOut (TM σ) (LM σ) e0 x.1 (e0 - i)) i e0 (pzO x.2.1 e0 (e0 - i), x.2.2) (k - i))))) H ∧ va_S (gA G) s.heap H locs ∧ lv_has ls 7 [(4, .int (nI k)), (3, .int (nI e0)), (1, .int (nI (bkM (TM σ) (hOut (TM σ) (LM σ) e0 x.1 (e0 - i)) i e0 (pzO x.2.1 e0 (e0 - i), x.2.2) (k - i)).2.2)), (2, .int (nI i)), (0, .ref (gad G 20))]) (fun ls => F0 m 92 ls []) (fun k H locs ls hk hJ kk => ?_) (fun H locs ls hJ => ?_) i _ _ _ hE1 ⟨Nat.le_refl _, by rw [Nat.sub_self]; exact hP, hS, by rw [li1]; exact lv_sub hl [0, 1, 2, 3, 4] rfl⟩
          · obtain ⟨hek, hP, hS, hl⟩ := hJ
            generalize hSk : (scS σ ((hOut (TM σ) (LM σ) e0 x.1 (e0 - i)), (bkM (TM σ) (hOut (TM σ) (LM σ) e0 x.1 (e0 - i)) i e0 (pzO x.2.1 e0 (e0 - i), x.2.2) (k - i)))) = Sk at hP
            have hD := g.d (τ := Sk)
            have kc : (nI k).toNatClampNeg = k := nI_clamp (by omega)
            have e14 : mJ Sk 14 = (bkM (TM σ) (hOut (TM σ) (LM σ) e0 x.1 (e0 - i)) i e0 (pzO x.2.1 e0 (e0 - i), x.2.2) (k - i)).1 := by rw [← hSk]; rfl
            have e11 : mJ Sk 11 = (hOut (TM σ) (LM σ) e0 x.1 (e0 - i)) := by rw [← hSk]; rfl
            have eT : TM Sk = TM σ := by rw [← hSk]; exact TM_cg (sc_q σ _)
            have hp := bkM_pk (T := TM σ) (h := (hOut (TM σ) (LM σ) e0 x.1 (e0 - i))) (a := i) (e := e0) (S := (pzO x.2.1 e0 (e0 - i), x.2.2)) (pz0 hE1) (n := k - i) (by omega)
            refine lv_iload hx hb d_Mo_schedule_92 (lv_at hl 0 rfl) ?_
            refine lv_iload_n hx hb d_Mo_schedule_94 rfl (lv_at hl 1 rfl) ?_
            refine lv_icmp_ge (tgt := 185) hx hb d_Mo_schedule_95 (by decide) (fun c95 => ?_) (fun c95 => ?_)
            · exact absurd c95 (nI_ge hk (by omega))
            · refine lv_iconst (v := (-1)) hx hb d_Mo_schedule_98 (by decide) ?_
              refine lv_istore (lv' := [(5, .int (-1)), (4, .int (nI k)), (3, .int (nI e0)), (1, .int (nI (bkM (TM σ) (hOut (TM σ) (LM σ) e0 x.1 (e0 - i)) i e0 (pzO x.2.1 e0 (e0 - i), x.2.2) (k - i)).2.2)), (2, .int (nI i)), (0, .ref (gad G 20))]) hx hb d_Mo_schedule_99 hl (by decide) rfl (fun ls hl => ?_)
              refine lv_iload_n hx hb d_Mo_schedule_101 rfl (lv_at hl 4 rfl) ?_
              refine lv_istore (lv' := [(6, .int (nI i)), (5, .int (-1)), (4, .int (nI k)), (3, .int (nI e0)), (1, .int (nI (bkM (TM σ) (hOut (TM σ) (LM σ) e0 x.1 (e0 - i)) i e0 (pzO x.2.1 e0 (e0 - i), x.2.2) (k - i)).2.2)), (2, .int (nI i)), (0, .ref (gad G 20))]) hx hb d_Mo_schedule_102 hl (by decide) rfl (fun ls hl => ?_)
              have li5 : ((oi (bst (fre (bkM (TM σ) (hOut (TM σ) (LM σ) e0 x.1 (e0 - i)) i e0 (pzO x.2.1 e0 (e0 - i), x.2.2) (k - i)).1 (TM σ) i) (hOut (TM σ) (LM σ) e0 x.1 (e0 - i)) i (i - i))) : Int32) = (-1) := by rw [Nat.sub_self]; rfl
              refine W_for (N := e0) (fun c0 H locs ls => (i ≤ c0) ∧ va_P (gD G) classes (mw G Sk) H ∧ va_S (gA G) s.heap H locs ∧ lv_has ls 7 [(6, .int (nI c0)), (5, .int (oi (bst (fre (bkM (TM σ) (hOut (TM σ) (LM σ) e0 x.1 (e0 - i)) i e0 (pzO x.2.1 e0 (e0 - i), x.2.2) (k - i)).1 (TM σ) i) (hOut (TM σ) (LM σ) e0 x.1 (e0 - i)) i (c0 - i)))), (4, .int (nI k)), (3, .int (nI e0)), (1, .int (nI (bkM (TM σ) (hOut (TM σ) (LM σ) e0 x.1 (e0 - i)) i e0 (pzO x.2.1 e0 (e0 - i), x.2.2) (k - i)).2.2)), (2, .int (nI i)), (0, .ref (gad G 20))]) (fun ls => F0 m 104 ls []) (fun c0 H locs ls hc0 hJ kc0 => ?_) (fun H locs ls hJ => ?_) i _ _ _ hE1 ⟨Nat.le_refl _, hP, hS, by rw [li5]; exact lv_sub hl [0, 1, 2, 3, 4, 5, 6] rfl⟩
              · obtain ⟨hec0, hP, hS, hl⟩ := hJ
                have hD := g.d (τ := Sk)
                have cc : (nI c0).toNatClampNeg = c0 := nI_clamp (by omega)
                have hbb : ∀ b, (bst (fre (bkM (TM σ) (hOut (TM σ) (LM σ) e0 x.1 (e0 - i)) i e0 (pzO x.2.1 e0 (e0 - i), x.2.2) (k - i)).1 (TM σ) i) (hOut (TM σ) (LM σ) e0 x.1 (e0 - i)) i (c0 - i)) = some b → b < 24 := fun b hb => by have := bst_some _ _ hb; omega
                refine lv_iload hx hb d_Mo_schedule_104 (lv_at hl 0 rfl) ?_
                refine lv_iload_n hx hb d_Mo_schedule_106 rfl (lv_at hl 3 rfl) ?_
                refine lv_icmp_ge (tgt := 152) hx hb d_Mo_schedule_107 (by decide) (fun c107 => ?_) (fun c107 => ?_)
                · exact absurd c107 (nI_ge hc0 (by omega))
                · refine lv_aload_n hx hb d_Mo_schedule_110 rfl (lv_at hl 6 rfl) ?_
                  refine lv_iload hx hb d_Mo_schedule_111 (lv_at hl 0 rfl) ?_
                  refine lv_iload_n hx hb d_Mo_schedule_113 rfl (lv_at hl 5 rfl) ?_
                  refine cx_V (n := 2) (C := R_Mo) (As := [.int (nI c0), .int (nI i)]) (rest := []) ⟨hx, hb, hml, hown, fun _ h9 => nomatch h9⟩ (K_Mo_free g Sk (by omega) hec0) (k_763 hT) (k_765 hT) (ks_36 hT) (k_766 hT) (k_9 hT) rfl (by decide +kernel) (va_recv hK hP (ci := 7) (q0 := 0) rfl rfl) (hc.at g hS hP) ⟨by decide, by decide⟩ ⟨by decide, by decide⟩ hl.1 (Nat.le_of_ble_eq_true rfl) d_Mo_schedule_114 (fun _ h9 => h9) hS (fun _ _ _ _ _ _ _ h9 => h9.elim) (fun v t H locs ht9 hRt hz hk hS => ?_)
                  obtain ⟨r, u, rfl, ⟨er, eu⟩, hP⟩ := hRt
                  subst er
                  rw [eu, ht9] at hP
                  have hD : va_D (gA G) (mw G Sk) := g.d
                  refine W.eq (g2 := F0 m 117 ls [.int (b2i (fre (mJ Sk 14) (TM Sk) i c0))]) rfl ?_
                  refine lv_if_eq (tgt := 146) hx hb d_Mo_schedule_117 (by decide) (fun c117 => ?_) (fun c117 => ?_)
                  · have c117 := b2i0 c117
                    refine lv_iinc (v := ((nI c0) + 1)) (lv' := [(6, .int ((nI c0) + 1)), (5, .int (oi (bst (fre (bkM (TM σ) (hOut (TM σ) (LM σ) e0 x.1 (e0 - i)) i e0 (pzO x.2.1 e0 (e0 - i), x.2.2) (k - i)).1 (TM σ) i) (hOut (TM σ) (LM σ) e0 x.1 (e0 - i)) i (c0 - i)))), (4, .int (nI k)), (3, .int (nI e0)), (1, .int (nI (bkM (TM σ) (hOut (TM σ) (LM σ) e0 x.1 (e0 - i)) i e0 (pzO x.2.1 e0 (e0 - i), x.2.2) (k - i)).2.2)), (2, .int (nI i)), (0, .ref (gad G 20))]) hx hb d_Mo_schedule_146 hl (k := 0) rfl rfl (by decide) rfl (fun ls hl => ?_)
                    refine lv_goto (tgt := 104) hx hb d_Mo_schedule_149 (by decide) ?_
                    rw [e14, eT] at c117
                    have lb6 : ((nI (c0 + 1)) : Int32) = ((nI c0) + 1) := (nI_1 _).symm
                    have lb5 : ((oi (bst (fre (bkM (TM σ) (hOut (TM σ) (LM σ) e0 x.1 (e0 - i)) i e0 (pzO x.2.1 e0 (e0 - i), x.2.2) (k - i)).1 (TM σ) i) (hOut (TM σ) (LM σ) e0 x.1 (e0 - i)) i ((c0 + 1) - i))) : Int32) = (oi (bst (fre (bkM (TM σ) (hOut (TM σ) (LM σ) e0 x.1 (e0 - i)) i e0 (pzO x.2.1 e0 (e0 - i), x.2.2) (k - i)).1 (TM σ) i) (hOut (TM σ) (LM σ) e0 x.1 (e0 - i)) i (c0 - i))) := by rw [bs_no hec0 c117]
                    exact kc0 _ _ _ ⟨(by omega), hP, hS, by rw [lb6, lb5]; exact lv_sub hl [0, 1, 2, 3, 4, 5, 6] rfl⟩
                  · have c117 := b2i1 c117
                    refine lv_iload hx hb d_Mo_schedule_120 (lv_at hl 1 rfl) ?_
                    refine lv_if_lt (tgt := 142) hx hb d_Mo_schedule_122 (by decide) (fun c122 => ?_) (fun c122 => ?_)
                    · refine lv_iload hx hb d_Mo_schedule_142 (lv_at hl 0 rfl) ?_
                      refine lv_istore (lv' := [(5, .int (nI c0)), (6, .int (nI c0)), (4, .int (nI k)), (3, .int (nI e0)), (1, .int (nI (bkM (TM σ) (hOut (TM σ) (LM σ) e0 x.1 (e0 - i)) i e0 (pzO x.2.1 e0 (e0 - i), x.2.2) (k - i)).2.2)), (2, .int (nI i)), (0, .ref (gad G 20))]) hx hb d_Mo_schedule_144 hl (by decide) rfl (fun ls hl => ?_)
                      refine lv_iinc (v := ((nI c0) + 1)) (lv' := [(6, .int ((nI c0) + 1)), (5, .int (nI c0)), (4, .int (nI k)), (3, .int (nI e0)), (1, .int (nI (bkM (TM σ) (hOut (TM σ) (LM σ) e0 x.1 (e0 - i)) i e0 (pzO x.2.1 e0 (e0 - i), x.2.2) (k - i)).2.2)), (2, .int (nI i)), (0, .ref (gad G 20))]) hx hb d_Mo_schedule_146 hl (k := 1) rfl rfl (by decide) rfl (fun ls hl => ?_)
                      refine lv_goto (tgt := 104) hx hb d_Mo_schedule_149 (by decide) ?_
                      rw [e14, eT] at c117
                      have lb6 : ((nI (c0 + 1)) : Int32) = ((nI c0) + 1) := (nI_1 _).symm
                      have lb5 : ((oi (bst (fre (bkM (TM σ) (hOut (TM σ) (LM σ) e0 x.1 (e0 - i)) i e0 (pzO x.2.1 e0 (e0 - i), x.2.2) (k - i)).1 (TM σ) i) (hOut (TM σ) (LM σ) e0 x.1 (e0 - i)) i ((c0 + 1) - i))) : Int32) = (nI c0) := by rw [bs_y hec0 c117, oi_neg c122 hbb]; rfl
                      exact kc0 _ _ _ ⟨(by omega), hP, hS, by rw [lb6, lb5]; exact lv_sub hl [0, 1, 2, 3, 4, 5, 6] rfl⟩
                    · obtain ⟨b, hbo⟩ := oi_ge c122
                      have hb24 := hbb b hbo
                      have bc : (nI b).toNatClampNeg = b := nI_clamp (by omega)
                      rw [hbo] at hl
                      have hl : lv_has ls 7 [(6, .int (nI c0)), (5, .int (nI b)), (4, .int (nI k)), (3, .int (nI e0)), (1, .int (nI (bkM (TM σ) (hOut (TM σ) (LM σ) e0 x.1 (e0 - i)) i e0 (pzO x.2.1 e0 (e0 - i), x.2.2) (k - i)).2.2)), (2, .int (nI i)), (0, .ref (gad G 20))] := hl
                      refine lv_aload_n hx hb d_Mo_schedule_125 rfl (lv_at hl 6 rfl) ?_
                      refine va_get (D := gD G) (ci := 7) (v := .ref (gad G 34)) (C := R_Mo) (T := F_Mo) (N := 29) hx hb (wl_Mo hT) (fun _ h9 => h9) hown hK hP 0 rfl rfl 13 (by decide) (k_583 hT) (fun _ h9 => h9) rfl d_Mo_schedule_126 ?_
                      refine lv_iload hx hb d_Mo_schedule_129 (lv_at hl 0 rfl) ?_
                      refine va_iald (f := (mJ Sk 11)) hx hb hK hP 14 0 rfl rfl (vp_in_nI (by omega) (by decide)) d_Mo_schedule_131 ?_
                      refine lv_aload_n hx hb d_Mo_schedule_132 rfl (lv_at hl 6 rfl) ?_
                      refine va_get (D := gD G) (ci := 7) (v := .ref (gad G 34)) (C := R_Mo) (T := F_Mo) (N := 29) hx hb (wl_Mo hT) (fun _ h9 => h9) hown hK hP 0 rfl rfl 13 (by decide) (k_583 hT) (fun _ h9 => h9) rfl d_Mo_schedule_133 ?_
                      refine lv_iload hx hb d_Mo_schedule_136 (lv_at hl 1 rfl) ?_
                      refine va_iald (f := (mJ Sk 11)) hx hb hK hP 14 0 rfl rfl (vp_in_nI (by omega) (by decide)) d_Mo_schedule_138 ?_
                      refine lv_icmp_le (tgt := 146) hx hb d_Mo_schedule_139 (by decide) (fun c139 => ?_) (fun c139 => ?_)
                      · refine lv_iinc (v := ((nI c0) + 1)) (lv' := [(6, .int ((nI c0) + 1)), (5, .int (nI b)), (4, .int (nI k)), (3, .int (nI e0)), (1, .int (nI (bkM (TM σ) (hOut (TM σ) (LM σ) e0 x.1 (e0 - i)) i e0 (pzO x.2.1 e0 (e0 - i), x.2.2) (k - i)).2.2)), (2, .int (nI i)), (0, .ref (gad G 20))]) hx hb d_Mo_schedule_146 hl (k := 0) rfl rfl (by decide) rfl (fun ls hl => ?_)
                        refine lv_goto (tgt := 104) hx hb d_Mo_schedule_149 (by decide) ?_
                        rw [e14, eT] at c117
                        rw [e11, cc, bc] at c139
                        have lb6 : ((nI (c0 + 1)) : Int32) = ((nI c0) + 1) := (nI_1 _).symm
                        have lb5 : ((oi (bst (fre (bkM (TM σ) (hOut (TM σ) (LM σ) e0 x.1 (e0 - i)) i e0 (pzO x.2.1 e0 (e0 - i), x.2.2) (k - i)).1 (TM σ) i) (hOut (TM σ) (LM σ) e0 x.1 (e0 - i)) i ((c0 + 1) - i))) : Int32) = (nI b) := by rw [bs_y hec0 c117, hbo]; dsimp only; rw [if_pos c139]; rfl
                        exact kc0 _ _ _ ⟨(by omega), hP, hS, by rw [lb6, lb5]; exact lv_sub hl [0, 1, 2, 3, 4, 5, 6] rfl⟩
                      · refine lv_iload hx hb d_Mo_schedule_142 (lv_at hl 0 rfl) ?_
                        refine lv_istore (lv' := [(5, .int (nI c0)), (6, .int (nI c0)), (4, .int (nI k)), (3, .int (nI e0)), (1, .int (nI (bkM (TM σ) (hOut (TM σ) (LM σ) e0 x.1 (e0 - i)) i e0 (pzO x.2.1 e0 (e0 - i), x.2.2) (k - i)).2.2)), (2, .int (nI i)), (0, .ref (gad G 20))]) hx hb d_Mo_schedule_144 hl (by decide) rfl (fun ls hl => ?_)
                        refine lv_iinc (v := ((nI c0) + 1)) (lv' := [(6, .int ((nI c0) + 1)), (5, .int (nI c0)), (4, .int (nI k)), (3, .int (nI e0)), (1, .int (nI (bkM (TM σ) (hOut (TM σ) (LM σ) e0 x.1 (e0 - i)) i e0 (pzO x.2.1 e0 (e0 - i), x.2.2) (k - i)).2.2)), (2, .int (nI i)), (0, .ref (gad G 20))]) hx hb d_Mo_schedule_146 hl (k := 1) rfl rfl (by decide) rfl (fun ls hl => ?_)
                        refine lv_goto (tgt := 104) hx hb d_Mo_schedule_149 (by decide) ?_
                        rw [e14, eT] at c117
                        rw [e11, cc, bc] at c139
                        have lb6 : ((nI (c0 + 1)) : Int32) = ((nI c0) + 1) := (nI_1 _).symm
                        have lb5 : ((oi (bst (fre (bkM (TM σ) (hOut (TM σ) (LM σ) e0 x.1 (e0 - i)) i e0 (pzO x.2.1 e0 (e0 - i), x.2.2) (k - i)).1 (TM σ) i) (hOut (TM σ) (LM σ) e0 x.1 (e0 - i)) i ((c0 + 1) - i))) : Int32) = (nI c0) := by rw [bs_y hec0 c117, hbo]; dsimp only; rw [if_neg c139]; rfl
                        exact kc0 _ _ _ ⟨(by omega), hP, hS, by rw [lb6, lb5]; exact lv_sub hl [0, 1, 2, 3, 4, 5, 6] rfl⟩
              · obtain ⟨hec0, hP, hS, hl⟩ := hJ
                have hD := g.d (τ := Sk)
                obtain ⟨p0, hp0⟩ : ∃ p0, p0 = pkM (TM σ) (hOut (TM σ) (LM σ) e0 x.1 (e0 - i)) i e0 (bkM (TM σ) (hOut (TM σ) (LM σ) e0 x.1 (e0 - i)) i e0 (pzO x.2.1 e0 (e0 - i), x.2.2) (k - i)).1 := ⟨_, rfl⟩
                rw [← hp0] at hp
                obtain ⟨hp1, hp2, hp3, hp4⟩ := hp
                rw [hp4] at hl
                have hl : lv_has ls 7 [(6, .int (nI e0)), (5, .int (nI p0)), (4, .int (nI k)), (3, .int (nI e0)), (1, .int (nI (bkM (TM σ) (hOut (TM σ) (LM σ) e0 x.1 (e0 - i)) i e0 (pzO x.2.1 e0 (e0 - i), x.2.2) (k - i)).2.2)), (2, .int (nI i)), (0, .ref (gad G 20))] := hl
                have pc0 : (nI p0).toNatClampNeg = p0 := nI_clamp (by omega)
                refine lv_iload hx hb d_Mo_schedule_104 (lv_at hl 0 rfl) ?_
                refine lv_iload_n hx hb d_Mo_schedule_106 rfl (lv_at hl 3 rfl) ?_
                refine lv_icmp_ge (tgt := 152) hx hb d_Mo_schedule_107 (by decide) (fun c107 => ?_) (fun c107 => ?_)
                · refine lv_aload_n hx hb d_Mo_schedule_152 rfl (lv_at hl 6 rfl) ?_
                  refine va_get (D := gD G) (ci := 7) (v := .ref (gad G 37)) (C := R_Mo) (T := F_Mo) (N := 29) hx hb (wl_Mo hT) (fun _ h9 => h9) hown hK hP 0 rfl rfl 16 (by decide) (k_586 hT) (fun _ h9 => h9) rfl d_Mo_schedule_153 ?_
                  refine lv_iload hx hb d_Mo_schedule_156 (lv_at hl 1 rfl) ?_
                  refine lv_iconst (v := 1) hx hb d_Mo_schedule_158 (by decide) ?_
                  refine va_zast (f := (mJ Sk 14)) hx hb hK hP hD hS 17 2 rfl rfl (vp_in_nI (by omega) (by decide)) d_Mo_schedule_159 (fun H locs hP hD hS => ?_)
                  have hP : va_P (gD G) classes (mw G (tJ Sk 14 (upd (mJ Sk 14) (nI p0).toNatClampNeg 1))) H := by have h9 := hP; rw [mwS_J14] at h9; exact h9
                  have hD : va_D (gA G) (mw G (tJ Sk 14 (upd (mJ Sk 14) (nI p0).toNatClampNeg 1))) := g.d
                  refine lv_aload_n hx hb d_Mo_schedule_160 rfl (lv_at hl 6 rfl) ?_
                  refine va_get (D := gD G) (ci := 7) (v := .ref (gad G 35)) (C := R_Mo) (T := F_Mo) (N := 29) hx hb (wl_Mo hT) (fun _ h9 => h9) hown hK hP 0 rfl rfl 14 (by decide) (k_584 hT) (fun _ h9 => h9) rfl d_Mo_schedule_161 ?_
                  refine lv_iload hx hb d_Mo_schedule_164 (lv_at hl 2 rfl) ?_
                  refine lv_iload hx hb d_Mo_schedule_166 (lv_at hl 1 rfl) ?_
                  refine va_iast (f := (mJ Sk 12)) hx hb hK hP hD hS 15 0 rfl rfl (vp_in_nI (by omega) (by decide)) d_Mo_schedule_168 (fun H locs hP hD hS => ?_)
                  have hP : va_P (gD G) classes (mw G (tJ (tJ Sk 14 (upd (mJ Sk 14) (nI p0).toNatClampNeg 1)) 12 (upd (mJ Sk 12) (nI k).toNatClampNeg (nI p0)))) H := by have h9 := hP; rw [mwS_J12] at h9; exact h9
                  have hD : va_D (gA G) (mw G (tJ (tJ Sk 14 (upd (mJ Sk 14) (nI p0).toNatClampNeg 1)) 12 (upd (mJ Sk 12) (nI k).toNatClampNeg (nI p0)))) := g.d
                  refine lv_iload hx hb d_Mo_schedule_169 (lv_at hl 1 rfl) ?_
                  refine lv_iload hx hb d_Mo_schedule_171 (lv_at hl 2 rfl) ?_
                  refine lv_icmp_eq (tgt := 179) hx hb d_Mo_schedule_173 (by decide) (fun c173 => ?_) (fun c173 => ?_)
                  · refine lv_iinc (v := ((nI k) + 1)) (lv' := [(4, .int ((nI k) + 1)), (6, .int (nI e0)), (5, .int (nI p0)), (3, .int (nI e0)), (1, .int (nI (bkM (TM σ) (hOut (TM σ) (LM σ) e0 x.1 (e0 - i)) i e0 (pzO x.2.1 e0 (e0 - i), x.2.2) (k - i)).2.2)), (2, .int (nI i)), (0, .ref (gad G 20))]) hx hb d_Mo_schedule_179 hl (k := 2) rfl rfl (by decide) rfl (fun ls hl => ?_)
                    refine lv_goto (tgt := 92) hx hb d_Mo_schedule_182 (by decide) ?_
                    have lb4 : ((nI (k + 1)) : Int32) = ((nI k) + 1) := (nI_1 _).symm
                    have lb1 : ((nI (bkM (TM σ) (hOut (TM σ) (LM σ) e0 x.1 (e0 - i)) i e0 (pzO x.2.1 e0 (e0 - i), x.2.2) ((k + 1) - i)).2.2) : Int32) = (nI (bkM (TM σ) (hOut (TM σ) (LM σ) e0 x.1 (e0 - i)) i e0 (pzO x.2.1 e0 (e0 - i), x.2.2) (k - i)).2.2) := by rw [bk_mv hek hp0, if_pos (nI_inj (by omega) (by omega) c173)]; rfl
                    exact kk _ _ _ ⟨(by omega), by rw [sc_step hek (by omega) hSk hp0 pc0 kc]; exact hP, hS, by rw [lb4, lb1]; exact lv_sub hl [0, 3, 4, 5, 6] rfl⟩
                  · refine lv_iinc (v := ((nI (bkM (TM σ) (hOut (TM σ) (LM σ) e0 x.1 (e0 - i)) i e0 (pzO x.2.1 e0 (e0 - i), x.2.2) (k - i)).2.2) + 1)) (lv' := [(1, .int ((nI (bkM (TM σ) (hOut (TM σ) (LM σ) e0 x.1 (e0 - i)) i e0 (pzO x.2.1 e0 (e0 - i), x.2.2) (k - i)).2.2) + 1)), (6, .int (nI e0)), (5, .int (nI p0)), (4, .int (nI k)), (3, .int (nI e0)), (2, .int (nI i)), (0, .ref (gad G 20))]) hx hb d_Mo_schedule_176 hl (k := 4) rfl rfl (by decide) rfl (fun ls hl => ?_)
                    refine lv_iinc (v := ((nI k) + 1)) (lv' := [(4, .int ((nI k) + 1)), (1, .int ((nI (bkM (TM σ) (hOut (TM σ) (LM σ) e0 x.1 (e0 - i)) i e0 (pzO x.2.1 e0 (e0 - i), x.2.2) (k - i)).2.2) + 1)), (6, .int (nI e0)), (5, .int (nI p0)), (3, .int (nI e0)), (2, .int (nI i)), (0, .ref (gad G 20))]) hx hb d_Mo_schedule_179 hl (k := 3) rfl rfl (by decide) rfl (fun ls hl => ?_)
                    refine lv_goto (tgt := 92) hx hb d_Mo_schedule_182 (by decide) ?_
                    have lb4 : ((nI (k + 1)) : Int32) = ((nI k) + 1) := (nI_1 _).symm
                    have lb1 : ((nI (bkM (TM σ) (hOut (TM σ) (LM σ) e0 x.1 (e0 - i)) i e0 (pzO x.2.1 e0 (e0 - i), x.2.2) ((k + 1) - i)).2.2) : Int32) = ((nI (bkM (TM σ) (hOut (TM σ) (LM σ) e0 x.1 (e0 - i)) i e0 (pzO x.2.1 e0 (e0 - i), x.2.2) (k - i)).2.2) + 1) := by rw [bk_mv hek hp0, if_neg (fun z => c173 (by rw [z])), ← nI_1]
                    exact kk _ _ _ ⟨(by omega), by rw [sc_step hek (by omega) hSk hp0 pc0 kc]; exact hP, hS, by rw [lb4, lb1]; exact lv_sub hl [0, 4, 1, 5, 6] rfl⟩
                · exact absurd (nI_le (Nat.le_refl _) (by omega)) c107
          · obtain ⟨hek, hP, hS, hl⟩ := hJ
            generalize hSk : (scS σ ((hOut (TM σ) (LM σ) e0 x.1 (e0 - i)), (bkM (TM σ) (hOut (TM σ) (LM σ) e0 x.1 (e0 - i)) i e0 (pzO x.2.1 e0 (e0 - i), x.2.2) (e0 - i)))) = Sk at hP
            have hD := g.d (τ := Sk)
            refine lv_iload hx hb d_Mo_schedule_92 (lv_at hl 0 rfl) ?_
            refine lv_iload_n hx hb d_Mo_schedule_94 rfl (lv_at hl 1 rfl) ?_
            refine lv_icmp_ge (tgt := 185) hx hb d_Mo_schedule_95 (by decide) (fun c95 => ?_) (fun c95 => ?_)
            · refine lv_iload_n hx hb d_Mo_schedule_185 rfl (lv_at hl 1 rfl) ?_
              refine lv_iload_n hx hb d_Mo_schedule_186 rfl (lv_at hl 3 rfl) ?_
              refine lv_icmp_le (tgt := 194) hx hb d_Mo_schedule_187 (by decide) (fun c187 => ?_) (fun c187 => ?_)
              · refine lv_iload_n hx hb d_Mo_schedule_194 rfl (lv_at hl 3 rfl) ?_
                refine lv_iconst (v := 1) hx hb d_Mo_schedule_195 (by decide) ?_
                refine lv_iadd hx hb d_Mo_schedule_196 ?_
                refine lv_istore_n (lv' := [(2, .int ((nI i) + 1)), (4, .int (nI e0)), (3, .int (nI e0)), (1, .int (nI (bkM (TM σ) (hOut (TM σ) (LM σ) e0 x.1 (e0 - i)) i e0 (pzO x.2.1 e0 (e0 - i), x.2.2) (e0 - i)).2.2)), (0, .ref (gad G 20))]) hx hb d_Mo_schedule_197 rfl hl (by decide) rfl (fun ls hl => ?_)
                refine lv_goto (tgt := 30) hx hb d_Mo_schedule_198 (by decide) ?_
                have eB : BM σ i x = ((hOut (TM σ) (LM σ) e0 x.1 (e0 - i)), (bkM (TM σ) (hOut (TM σ) (LM σ) e0 x.1 (e0 - i)) i e0 (pzO x.2.1 e0 (e0 - i), x.2.2) (e0 - i))) := by unfold BM; rw [← hE0]
                rw [← hSk, ← eB] at hP
                rw [show (bkM (TM σ) (hOut (TM σ) (LM σ) e0 x.1 (e0 - i)) i e0 (pzO x.2.1 e0 (e0 - i), x.2.2) (e0 - i)).2.2 = (BM σ i x).2.2.2 by rw [eB]] at hl
                have hmx : ouM (BM σ) (enM σ) (f + 1) i x = ouM (BM σ) (enM σ) f (i + 1) (BM σ i x) := by
                  show (if i < 24 then ouM (BM σ) (enM σ) f (if i < enM σ i then enM σ i else i + 1) (BM σ i x) else x) = _
                  rw [if_pos hi24, ← hE0, if_neg (fun z => absurd c187 (nI_ge z (by omega)))]
                rw [hmx]
                exact ih (i + 1) (BM σ i x) H locs ls (by omega) (by omega) (BM_od (by omega) hod) hP hS (by rw [← nI_1]; exact lv_sub hl [3, 0, 4] rfl)
              · refine lv_iload_n hx hb d_Mo_schedule_190 rfl (lv_at hl 1 rfl) ?_
                refine lv_goto (tgt := 197) hx hb d_Mo_schedule_191 (by decide) ?_
                refine lv_istore_n (lv' := [(2, .int (nI e0)), (4, .int (nI e0)), (3, .int (nI e0)), (1, .int (nI (bkM (TM σ) (hOut (TM σ) (LM σ) e0 x.1 (e0 - i)) i e0 (pzO x.2.1 e0 (e0 - i), x.2.2) (e0 - i)).2.2)), (0, .ref (gad G 20))]) hx hb d_Mo_schedule_197 rfl hl (by decide) rfl (fun ls hl => ?_)
                refine lv_goto (tgt := 30) hx hb d_Mo_schedule_198 (by decide) ?_
                have eB : BM σ i x = ((hOut (TM σ) (LM σ) e0 x.1 (e0 - i)), (bkM (TM σ) (hOut (TM σ) (LM σ) e0 x.1 (e0 - i)) i e0 (pzO x.2.1 e0 (e0 - i), x.2.2) (e0 - i))) := by unfold BM; rw [← hE0]
                rw [← hSk, ← eB] at hP
                rw [show (bkM (TM σ) (hOut (TM σ) (LM σ) e0 x.1 (e0 - i)) i e0 (pzO x.2.1 e0 (e0 - i), x.2.2) (e0 - i)).2.2 = (BM σ i x).2.2.2 by rw [eB]] at hl
                have hmx : ouM (BM σ) (enM σ) (f + 1) i x = ouM (BM σ) (enM σ) f (e0) (BM σ i x) := by
                  show (if i < 24 then ouM (BM σ) (enM σ) f (if i < enM σ i then enM σ i else i + 1) (BM σ i x) else x) = _
                  rw [if_pos hi24, ← hE0, if_pos (Nat.lt_of_not_le (fun z => c187 (nI_le z (by omega))))]
                rw [hmx]
                exact ih (e0) (BM σ i x) H locs ls (by have := Nat.lt_of_not_le (fun z => c187 (nI_le z (by omega) : nI e0 ≤ nI i)); omega) (by omega) (BM_od (by omega) hod) hP hS (lv_sub hl [3, 0, 4] rfl)
            · exact absurd (nI_le (Nat.le_refl _) (by omega)) c95
        · refine lv_icmp_ge (tgt := 83) hx hb d_Mo_schedule_41 (by decide) (fun c41 => ?_) (fun c41 => ?_)
          · have e9 : (scS σ x) = (scS σ x) := by rfl
            exact J41 () _ _ _ ⟨by rw [e9]; exact hP, hS, lv_sub hl [0, 1, 2, 3] rfl⟩
          · have h24 : e0 < 24 := Nat.lt_of_not_le (fun z => c41 (nI_le (a := 24) (b := e0) z (by omega)))
            refine lv_aload_n hx hb d_Mo_schedule_44 rfl (lv_at hl 3 rfl) ?_
            refine va_get (D := gD G) (ci := 7) (v := .ref (gad G 21)) (C := R_Mo) (T := F_Mo) (N := 29) hx hb (wl_Mo hT) (fun _ h9 => h9) hown hK hP 0 rfl rfl 0 (by decide) (k_570 hT) (fun _ h9 => h9) rfl d_Mo_schedule_45 ?_
            refine lv_iload_n hx hb d_Mo_schedule_48 rfl (lv_at hl 0 rfl) ?_
            refine va_iald (f := (mJ (scS σ x) 6)) hx hb hK hP 1 0 rfl rfl (vp_in_nI (by omega) (by decide)) d_Mo_schedule_49 ?_
            refine lv_if_le (tgt := 83) hx hb d_Mo_schedule_50 (by decide) (fun c50 => ?_) (fun c50 => ?_)
            · have e9 : (scS σ x) = (scS σ x) := by rfl
              exact J41 () _ _ _ ⟨by rw [e9]; exact hP, hS, lv_sub hl [0, 1, 2, 3] rfl⟩
            · refine lv_aload_n hx hb d_Mo_schedule_53 rfl (lv_at hl 3 rfl) ?_
              refine va_get (D := gD G) (ci := 7) (v := .ref (gad G 21)) (C := R_Mo) (T := F_Mo) (N := 29) hx hb (wl_Mo hT) (fun _ h9 => h9) hown hK hP 0 rfl rfl 0 (by decide) (k_570 hT) (fun _ h9 => h9) rfl d_Mo_schedule_54 ?_
              refine lv_iload_n hx hb d_Mo_schedule_57 rfl (lv_at hl 0 rfl) ?_
              refine va_iald (f := (mJ (scS σ x) 6)) hx hb hK hP 1 0 rfl rfl (vp_in_nI (by omega) (by decide)) d_Mo_schedule_58 ?_
              refine lv_bipush (v := 17) hx hb d_Mo_schedule_59 (by decide) ?_
              refine lv_icmp_ge (tgt := 83) hx hb d_Mo_schedule_61 (by decide) (fun c61 => ?_) (fun c61 => ?_)
              · have e9 : (scS σ x) = (scS σ x) := by rfl
                exact J41 () _ _ _ ⟨by rw [e9]; exact hP, hS, lv_sub hl [0, 1, 2, 3] rfl⟩
              · refine lv_iload_n hx hb d_Mo_schedule_64 rfl (lv_at hl 0 rfl) ?_
                refine lv_iload_n hx hb d_Mo_schedule_65 rfl (lv_at hl 2 rfl) ?_
                refine lv_icmp_eq (tgt := 77) hx hb d_Mo_schedule_66 (by decide) (fun c66 => ?_) (fun c66 => ?_)
                · have k9 := ok_yes (σ := σ) (i := i) (k := e0) (by rw [ec] at c50; exact c50) (by rw [ec] at c61; exact c61) (Or.inl (nI_inj (by omega) (by omega) c66))
                  rw [hE4 h24] at k9
                  cases k9
                · refine lv_aload_n hx hb d_Mo_schedule_69 rfl (lv_at hl 3 rfl) ?_
                  refine lv_iload_n hx hb d_Mo_schedule_70 rfl (lv_at hl 0 rfl) ?_
                  refine cx_V (n := 1) (C := R_Mo) (As := [.int (nI e0)]) (rest := []) ⟨hx, hb, hml, hown, fun _ h9 => nomatch h9⟩ (K_Mo_leader g (scS σ x) (by omega)) (k_747 hT) (k_749 hT) (ks_32 hT) (k_750 hT) (k_9 hT) rfl (by decide +kernel) (va_recv hK hP (ci := 7) (q0 := 0) rfl rfl) (hc.at g hS hP) ⟨by decide, by decide⟩ ⟨by decide, by decide⟩ hl.1 (Nat.le_of_ble_eq_true rfl) d_Mo_schedule_71 (fun _ h9 => h9) hS (fun _ _ _ _ _ _ _ h9 => h9.elim) (fun v t H locs ht9 hRt hz hk hS => ?_)
                  obtain ⟨r, u, rfl, ⟨er, eu⟩, hP⟩ := hRt
                  subst er
                  rw [eu, ht9] at hP
                  have hD : va_D (gA G) (mw G (scS σ x)) := g.d
                  refine W.eq (g2 := F0 m 74 ls [.int (b2i (ldM (scS σ x) e0))]) rfl ?_
                  refine lv_if_ne (tgt := 83) hx hb d_Mo_schedule_74 (by decide) (fun c74 => ?_) (fun c74 => ?_)
                  · have c74 := b2i1 c74
                    have e9 : (scS σ x) = (scS σ x) := by rfl
                    exact J41 () _ _ _ ⟨by rw [e9]; exact hP, hS, lv_sub hl [0, 1, 2, 3] rfl⟩
                  · have c74 := b2i0 c74
                    rw [ldM_cg (σ := scS σ x) (τ := σ) rfl rfl] at c74
                    have k9 := ok_yes (σ := σ) (i := i) (k := e0) (by rw [ec] at c50; exact c50) (by rw [ec] at c61; exact c61) (Or.inr c74)
                    rw [hE4 h24] at k9
                    cases k9
section MSch5
def idA (f : Nat → Int32) (j : Nat) : Nat → Int32 := fun k => if k < j then nI k else f k
theorem idA_0 (f : Nat → Int32) : idA f 0 = f := by funext k; unfold idA; rw [if_neg (Nat.not_lt_zero k)]
theorem idA_up (f : Nat → Int32) (j : Nat) : upd (idA f j) j (nI j) = idA f (j + 1) := by
  funext k
  unfold upd idA
  by_cases e : k = j
  · rw [if_pos e, if_pos (by omega), e]
  · rw [if_neg e]
    by_cases h : k < j
    · rw [if_pos h, if_pos (by omega)]
    · rw [if_neg h, if_neg (by omega)]
def x0M (σ : MS) : SX := (mJ σ 11, mJ σ 14, fun k => k, 0)
def schX (σ : MS) : SX := ouM (BM (tI σ 11 0)) (enM (tI σ 11 0)) 24 0 (x0M (tI σ 11 0))
theorem sc_x0 (τ : MS) : scS τ (x0M τ) = tJ τ 12 (idA (mJ τ 12) 24) := by
  unfold scS x0M
  show tJ (tJ (tJ τ 11 (mJ τ 11)) 14 (mJ τ 14)) 12 (odA (mJ τ 12) (fun k => k)) = _
  rw [tJ_self, tJ_self]
  rfl
end MSch5
set_option maxHeartbeats 4000000 in
set_option maxRecDepth 100000 in
theorem K_Mo_schedule {l : Launch} {G : GT} (g : MOK l G) (σ : MS) : cx_M l y_Mo_schedule (.code y_Mo_schedule b_Mo_schedule 7 (some .int)) 5 114 (gA G) [.ref (gad G 20)] (Mw G σ) (Mi G (fun r u => r = nI (schX σ).2.2.2 ∧ SchE (tI σ 11 0) (schX σ) u)) (Tn) := by
  refine cx_of (by decide +kernel) ?_
  intro p e s m below meth c s₁ B hml ht hc
  have hx := B.exec
  have hb := B.bytes
  have hr := B.returns
  have hown : s.vm.findClass R_Mo = some m.cls := findClass_of_methodNamed B.named
  have hlocks := B.notSynchronized
  have hT := g.tb hc
  have hK := g.k hc
  have hD := g.d (τ := σ)
  have hS : va_S (gA G) s.heap s.heap [] := va_S.rf
  have hP := hc.2.2
  have hl := lv_entry ([.ref (gad G 20)]) (n := 7) (Nat.le_of_ble_eq_true rfl)
  rw [lg_entry_eq]
  generalize (lg_sl ([.ref (gad G 20)]) ++ List.replicate (7 - (lg_sl ([.ref (gad G 20)])).length) Slot.unset).toArray = ls at hl ⊢
  have hl : lv_has ls 7 [(0, .ref (gad G 20))] := hl
  refine lv_aload_n hx hb d_Mo_schedule_0 rfl (lv_at hl 0 rfl) ?_
  refine lv_iconst (v := 0) hx hb d_Mo_schedule_1 (by decide) ?_
  refine va_put (D := gD G) (ci := 7) (v := .int 0) (ty := .int) (C := R_Mo) (T := F_Mo) (N := 29) hx hb (wl_Mo hT) (fun _ h9 => h9) fy_Mo fy_Mo_ok fn_Mo hown hK hP hD hS 0 rfl rfl 26 (by decide) (k_596 hT) (fun _ h9 => h9) rfl (by decide +kernel) rfl rfl (Nat.le_of_ble_eq_true rfl) d_Mo_schedule_2 (fun H locs hP hD hS => ?_)
  have hP : va_P (gD G) classes (mw G (tI σ 11 0)) H := hP
  have hD : va_D (gA G) (mw G (tI σ 11 0)) := g.d
  refine lv_iconst (v := 0) hx hb d_Mo_schedule_5 (by decide) ?_
  refine lv_istore_n (lv' := [(1, .int 0), (0, .ref (gad G 20))]) hx hb d_Mo_schedule_6 rfl hl (by decide) rfl (fun ls hl => ?_)
  refine lv_iconst (v := 0) hx hb d_Mo_schedule_7 (by decide) ?_
  refine lv_istore_n (lv' := [(2, .int 0), (1, .int 0), (0, .ref (gad G 20))]) hx hb d_Mo_schedule_8 rfl hl (by decide) rfl (fun ls hl => ?_)
  refine lv_iconst (v := 0) hx hb d_Mo_schedule_9 (by decide) ?_
  refine lv_istore_n (lv' := [(3, .int 0), (2, .int 0), (1, .int 0), (0, .ref (gad G 20))]) hx hb d_Mo_schedule_10 rfl hl (by decide) rfl (fun ls hl => ?_)
  have li3 : ((nI 0) : Int32) = 0 := nI_0
  refine W_for (N := 24) (fun j H locs ls => va_P (gD G) classes (mw G (tJ (tI σ 11 0) 12 (idA (mJ (tI σ 11 0) 12) j))) H ∧ va_S (gA G) s.heap H locs ∧ lv_has ls 7 [(3, .int (nI j)), (2, .int 0), (1, .int 0), (0, .ref (gad G 20))]) (fun ls => F0 m 11 ls []) (fun j H locs ls hj hJ kj => ?_) (fun H locs ls hJ => ?_) 0 _ _ _ (Nat.zero_le _) ⟨by rw [idA_0, tJ_self]; exact hP, hS, by rw [li3]; exact lv_sub hl [0, 1, 2, 3] rfl⟩
  · obtain ⟨hP, hS, hl⟩ := hJ
    generalize hSj : (tJ (tI σ 11 0) 12 (idA (mJ (tI σ 11 0) 12) j)) = Sj at hP
    have hD := g.d (τ := Sj)
    have jc : (nI j).toNatClampNeg = j := nI_clamp (by omega)
    refine lv_iload_n hx hb d_Mo_schedule_11 rfl (lv_at hl 0 rfl) ?_
    refine lv_bipush (v := 24) hx hb d_Mo_schedule_12 (by decide) ?_
    refine lv_icmp_ge (tgt := 30) hx hb d_Mo_schedule_14 (by decide) (fun c14 => ?_) (fun c14 => ?_)
    · exact absurd c14 (nI_ge hj (by decide))
    · refine lv_aload_n hx hb d_Mo_schedule_17 rfl (lv_at hl 3 rfl) ?_
      refine va_get (D := gD G) (ci := 7) (v := .ref (gad G 35)) (C := R_Mo) (T := F_Mo) (N := 29) hx hb (wl_Mo hT) (fun _ h9 => h9) hown hK hP 0 rfl rfl 14 (by decide) (k_584 hT) (fun _ h9 => h9) rfl d_Mo_schedule_18 ?_
      refine lv_iload_n hx hb d_Mo_schedule_21 rfl (lv_at hl 0 rfl) ?_
      refine lv_iload_n hx hb d_Mo_schedule_22 rfl (lv_at hl 0 rfl) ?_
      refine va_iast (f := (mJ Sj 12)) hx hb hK hP hD hS 15 0 rfl rfl (vp_in_nI hj (by decide)) d_Mo_schedule_23 (fun H locs hP hD hS => ?_)
      have hP : va_P (gD G) classes (mw G (tJ Sj 12 (upd (mJ Sj 12) (nI j).toNatClampNeg (nI j)))) H := by have h9 := hP; rw [mwS_J12] at h9; exact h9
      have hD : va_D (gA G) (mw G (tJ Sj 12 (upd (mJ Sj 12) (nI j).toNatClampNeg (nI j)))) := g.d
      refine lv_iinc (v := ((nI j) + 1)) (lv' := [(3, .int ((nI j) + 1)), (2, .int 0), (1, .int 0), (0, .ref (gad G 20))]) hx hb d_Mo_schedule_24 hl (k := 0) rfl rfl (by decide) rfl (fun ls hl => ?_)
      refine lv_goto (tgt := 11) hx hb d_Mo_schedule_27 (by decide) ?_
      have lb3 : ((nI (j + 1)) : Int32) = ((nI j) + 1) := (nI_1 _).symm
      exact kj _ _ _ ⟨by rw [← idA_up, ← tJ_tJ (tI σ 11 0) 12 (idA (mJ (tI σ 11 0) 12) j), hSj]; rw [jc, show mJ Sj 12 = idA (mJ (tI σ 11 0) 12) j by rw [← hSj]; rfl] at hP; exact hP, hS, by rw [lb3]; exact lv_sub hl [0, 1, 2, 3] rfl⟩
  · obtain ⟨hP, hS, hl⟩ := hJ
    generalize hSj : (tJ (tI σ 11 0) 12 (idA (mJ (tI σ 11 0) 12) 24)) = Sj at hP
    have hD := g.d (τ := Sj)
    refine lv_iload_n hx hb d_Mo_schedule_11 rfl (lv_at hl 0 rfl) ?_
    refine lv_bipush (v := 24) hx hb d_Mo_schedule_12 (by decide) ?_
    refine lv_icmp_ge (tgt := 30) hx hb d_Mo_schedule_14 (by decide) (fun c14 => ?_) (fun c14 => ?_)
    · rw [← hSj, ← sc_x0] at hP
      refine L_Msch (σ := tI σ 11 0) ⟨hx, hb, hml, hr, hown, hlocks, ht, g, σ, hc⟩ 24 0 (x0M (tI σ 11 0)) H locs ls (by omega) (by omega) (fun k hk => hk) hP hS ?_
      rw [nI_0]
      exact lv_sub hl [2, 1, 3] rfl
    · exact absurd (nI_le (Nat.le_refl _) (by decide)) c14

