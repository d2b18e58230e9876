/-! PURE WORK 3: a fall -/
def EqF (φ ψ : Nat → Int32) : Prop := ∀ j, 2 ≤ j → j ≤ 10 → φ j = ψ j
theorem EqF.sy {φ ψ : Nat → Int32} (h : EqF φ ψ) : EqF ψ φ := fun j a b => (h j a b).symm
theorem EqF.tr {φ ψ χ : Nat → Int32} (h : EqF φ ψ) (h2 : EqF ψ χ) : EqF φ χ := fun j a b => (h j a b).trans (h2 j a b)
def fstep (kd wt wd cl : Int32) (L φ : Nat → Int32) : Nat → Int32 := stepF kd wt wd cl L φ (φ 5).toNatClampNeg
def runF (kd wt wd cl : Int32) (L : Nat → Int32) : Nat → (Nat → Int32) → (Nat → Int32)
  | 0, φ => φ
  | n + 1, φ => if 0 < φ 4 then runF kd wt wd cl L n (fstep kd wt wd cl L φ) else φ
def st0 (h a t : Int32) : Nat → Int32 := fun j => if j = 4 then h else if j = 5 then a else if j = 6 then t else 0
theorem stepF_congr {kd wt wd cl : Int32} {L φ ψ : Nat → Int32} {k : Nat} (h : EqF φ ψ) : EqF (stepF kd wt wd cl L φ k) (stepF kd wt wd cl L ψ k) := by
  have e2 := h 2 (by decide) (by decide)
  have e3 := h 3 (by decide) (by decide)
  have e4 := h 4 (by decide) (by decide)
  have e5 := h 5 (by decide) (by decide)
  have e6 := h 6 (by decide) (by decide)
  have e7 := h 7 (by decide) (by decide)
  have e8 := h 8 (by decide) (by decide)
  have e9 := h 9 (by decide) (by decide)
  have e10 := h 10 (by decide) (by decide)
  intro j h1 h2
  simp only [stepF, tk_slant, tk_turn, tk_told, tk_plain, tk_side, tk_down, tk_fell, e2, e3, e4, e5, e6, e7, e8, e9, e10, h j h1 h2]
theorem fstep_congr {kd wt wd cl : Int32} {L φ ψ : Nat → Int32} (h : EqF φ ψ) : EqF (fstep kd wt wd cl L φ) (fstep kd wt wd cl L ψ) := by
  unfold fstep
  rw [h 5 (by decide) (by decide)]
  exact stepF_congr h
theorem runF_congr {kd wt wd cl : Int32} {L : Nat → Int32} : ∀ (n : Nat) {φ ψ : Nat → Int32}, EqF φ ψ → EqF (runF kd wt wd cl L n φ) (runF kd wt wd cl L n ψ) := by
  intro n
  induction n with
  | zero => intro φ ψ h; exact h
  | succ n ih =>
    intro φ ψ h
    unfold runF
    rw [h 4 (by decide) (by decide)]
    by_cases h4 : 0 < ψ 4
    · rw [if_pos h4, if_pos h4]
      exact ih (fstep_congr h)
    · rw [if_neg h4, if_neg h4]
      exact h
/-- the numbers of a fall behind n ticks are as they may be -/
def VF (n : Nat) (φ : Nat → Int32) : Prop := (∃ k, k < 36 ∧ φ 5 = nI k) ∧ φ 2 = nI n ∧ (-9 ≤ (φ 6).toInt ∧ (φ 6).toInt ≤ 9) ∧ (-9999 ≤ (φ 7).toInt ∧ (φ 7).toInt ≤ 9999) ∧ (-9999 ≤ (φ 8).toInt ∧ (φ 8).toInt ≤ 9999) ∧ (-(1250 * (n : Int)) ≤ (φ 3).toInt ∧ (φ 3).toInt ≤ 1250 * (n : Int))
theorem VF.congr {n : Nat} {φ ψ : Nat → Int32} (h : EqF φ ψ) (v : VF n φ) : VF n ψ := by
  unfold VF at *
  rw [← h 5 (by decide) (by decide), ← h 2 (by decide) (by decide), ← h 6 (by decide) (by decide), ← h 7 (by decide) (by decide), ← h 8 (by decide) (by decide), ← h 3 (by decide) (by decide)]
  exact v
theorem div8 {x : Int32} (h1 : -9999 ≤ x.toInt) (h2 : x.toInt ≤ 9999) : -1250 ≤ (x / 8).toInt ∧ (x / 8).toInt ≤ 1250 := by
  have h8 : (8 : Int32).toInt = 8 := by decide
  have hn : (x.toInt.tdiv 8).natAbs = x.toInt.natAbs / 8 := Int.natAbs_tdiv _ _
  have e : (x / 8).toInt = x.toInt.tdiv 8 := by
    rw [Int32.toInt_div, h8]
    exact Int.bmod_eq_of_le (by omega) (by omega)
  rw [e]
  omega
theorem clampk {k : Nat} (h : k < 36) : (nI k).toNatClampNeg = k := nI_clamp (by omega)
theorem fstep_at {kd wt wd cl : Int32} {L φ : Nat → Int32} {k : Nat} (hk : k < 36) (h5 : φ 5 = nI k) : fstep kd wt wd cl L φ = stepF kd wt wd cl L φ k := by
  unfold fstep
  rw [h5, clampk hk]
theorem VF.step {kd wt wd cl : Int32} {L φ : Nat → Int32} {n : Nat} (hn : n < 300000) (v : VF n φ) : VF (n + 1) (fstep kd wt wd cl L φ) := by
  obtain ⟨⟨k, hk, h5⟩, h2, h6, h7, h8, h3⟩ := v
  rw [fstep_at hk h5]
  have k9 : -9 ≤ (tk_turn kd wd cl L φ k).toInt ∧ (tk_turn kd wd cl L φ k).toInt ≤ 9 := kept_9 _
  have k7 : -9999 ≤ (tk_side L φ k).toInt ∧ (tk_side L φ k).toInt ≤ 9999 := kept_9999 _
  have k8 : -9999 ≤ (tk_down kd wt L φ k).toInt ∧ (tk_down kd wt L φ k).toInt ≤ 9999 := kept_9999 _
  obtain ⟨t, htt, hturn⟩ : ∃ t, t < 19 ∧ tk_turn kd wd cl L φ k = nI t + (-9) := of_range (lo := -9) (n := 19) (by decide) k9.1 (by omega) (by decide) (by decide)
  obtain ⟨-, j, hj, hs⟩ := fmod36 k hk t htt
  have d8 := div8 k7.1 k7.2
  refine ⟨⟨j, hj, ?_⟩, ?_, ?_, ?_, ?_, ?_⟩
  · show tk_slant kd wd cl L φ k = nI j
    unfold tk_slant
    rw [h5, hturn]
    exact hs
  · show φ 2 + 1 = nI (n + 1)
    rw [h2]
    exact nI_1 n
  · exact k9
  · exact k7
  · exact k8
  · show -(1250 * ((n + 1 : Nat) : Int)) ≤ (φ 3 + tk_side L φ k / 8).toInt ∧ (φ 3 + tk_side L φ k / 8).toInt ≤ 1250 * ((n + 1 : Nat) : Int)
    rw [Int32.toInt_add, Int.bmod_eq_of_le (by omega) (by omega)]
    omega
theorem lt0_iff (x : Int32) : (if 0 < x then (0 : Int32) else 1) = 0 ↔ 0 < x := by
  by_cases h : 0 < x
  · simp [h]
  · simp [h]
/-- the reference's loop of a fall -/
theorem m_loop {N : Nat} {kd wt wd cl : Int32} {L : Nat → Int32} : ∀ (m n : Nat) (I : IM), m + n = 400 → VF n (mrow I) → SinOK (I 105) → I 101 19 = kd → I 101 20 = wt → I 101 21 = wd → I 101 22 = cl → I 103 = L → ¬ wd = 0 → ∀ f, m < f → ∃ I', G_X12_falls_9 N f I = some ((if 0 < runF kd wt wd cl L m (mrow I) 4 then 0 else 1), I') ∧ (∀ a, a ≠ 101 → I' a = I a) ∧ (∀ j, j < 23 ∨ 31 < j → I' 101 j = I 101 j) ∧ mrow I' = runF kd wt wd cl L m (mrow I) := by
  intro m
  induction m with
  | zero =>
    intro n I hmn v hs e1 e2 e3 e4 e5 hw f hf
    obtain ⟨f, rfl⟩ : ∃ g, f = g + 1 := ⟨f - 1, by omega⟩
    have h400 : (400 : Int32) ≤ I 101 23 := by
      have : I 101 23 = nI n := v.2.1
      rw [this, show n = 400 by omega]
      decide
    refine ⟨I, ?_, fun _ _ => rfl, fun _ _ => rfl, rfl⟩
    rw [G_X12_falls_9]
    simp only [h400, if_true, ite_self]
    rfl
  | succ m ih =>
    intro n I hmn v hs e1 e2 e3 e4 e5 hw f hf
    obtain ⟨f, rfl⟩ : ∃ g, f = g + 1 := ⟨f - 1, by omega⟩
    rw [G_X12_falls_9]
    by_cases h4 : 0 < I 101 25
    · have hl : F_X12_isLanded I = 0 := by unfold F_X12_isLanded; rw [if_pos h4]
      have h400 : ¬ (400 : Int32) ≤ I 101 23 := by
        have : I 101 23 = nI n := v.2.1
        rw [this]
        exact nI_ge (a := n) (b := 400) (by omega) (by decide)
      obtain ⟨k, hk, h5⟩ := v.1
      obtain ⟨I1, hI1, f1, f2, f3⟩ := m_tick hs hk h5 (by rw [e3]; exact hw)
      have hrow : mrow I1 = fstep kd wt wd cl L (mrow I) := by
        rw [fstep_at hk h5]
        funext j
        by_cases hj : 2 ≤ j ∧ j ≤ 10
        · rw [f3 j hj.1 hj.2, e1, e2, e3, e4, e5]
        · have : mrow I1 j = mrow I j := f2 (j + 21) (by omega)
          rw [this]
          have q : ∀ m, 2 ≤ m → m ≤ 10 → j ≠ m := fun m h1 h2 => by omega
          simp [stepF, q 2 (by decide) (by decide), q 3 (by decide) (by decide), q 4 (by decide) (by decide), q 5 (by decide) (by decide), q 6 (by decide) (by decide), q 7 (by decide) (by decide), q 8 (by decide) (by decide), q 9 (by decide) (by decide), q 10 (by decide) (by decide)]
      obtain ⟨I2, hI2, g1, g2, g3⟩ := ih (n + 1) I1 (by omega) (by rw [hrow]; exact v.step (by omega)) (by rw [f1 105 (by decide)]; exact hs) (by rw [f2 19 (by decide)]; exact e1) (by rw [f2 20 (by decide)]; exact e2) (by rw [f2 21 (by decide)]; exact e3) (by rw [f2 22 (by decide)]; exact e4) (by rw [f1 103 (by decide)]; exact e5) hw f (by omega)
      have hr : runF kd wt wd cl L (m + 1) (mrow I) = runF kd wt wd cl L m (mrow I1) := by
        rw [hrow]
        exact if_pos h4
      rw [hr]
      refine ⟨I2, ?_, fun a ha => (g1 a ha).trans (f1 a ha), fun j hj => (g2 j hj).trans (f2 j hj), g3⟩
      rw [if_pos hl, if_neg h400, hI1]
      exact hI2
    · have hl : F_X12_isLanded I = 1 := by unfold F_X12_isLanded; rw [if_neg h4]
      have hr : runF kd wt wd cl L (m + 1) (mrow I) = mrow I := if_neg h4
      rw [hr]
      refine ⟨I, ?_, fun _ _ => rfl, fun _ _ => rfl, rfl⟩
      rw [hl, if_neg (by decide)]
      show some ((1 : Int32), I) = some ((if 0 < I 101 25 then 0 else 1), I)
      rw [if_neg h4]
