/-! PURE WORK 4: both falls -/
def EqA (φ ψ : Nat → Int32) : Prop := ∀ j, 2 ≤ j → j ≤ 8 → φ j = ψ j
theorem EqF.a {φ ψ : Nat → Int32} (h : EqF φ ψ) : EqA φ ψ := fun j a b => h j a (by omega)
theorem EqA.sy {φ ψ : Nat → Int32} (h : EqA φ ψ) : EqA ψ φ := fun j a b => (h j a b).symm
theorem EqA.tr {φ ψ χ : Nat → Int32} (h : EqA φ ψ) (h2 : EqA ψ χ) : EqA φ χ := fun j a b => (h j a b).trans (h2 j a b)
def EqL (L M : Nat → Int32) : Prop := ∀ j, j < 6 → L j = M j
theorem stepF_L {kd wt wd cl : Int32} {L M φ : Nat → Int32} {k : Nat} (h : EqL L M) : stepF kd wt wd cl L φ k = stepF kd wt wd cl M φ k := by
  have e0 := h 0 (by decide)
  have e1 := h 1 (by decide)
  have e2 := h 2 (by decide)
  have e3 := h 3 (by decide)
  have e4 := h 4 (by decide)
  have e5 := h 5 (by decide)
  funext j
  simp only [stepF, tk_slant, tk_turn, tk_told, tk_plain, tk_side, tk_down, tk_fell, e0, e1, e2, e3, e4, e5]
theorem fstep_L {kd wt wd cl : Int32} {L M φ : Nat → Int32} (h : EqL L M) : fstep kd wt wd cl L φ = fstep kd wt wd cl M φ := stepF_L h
theorem runF_L {kd wt wd cl : Int32} {L M : Nat → Int32} (h : EqL L M) : ∀ (n : Nat) (φ : Nat → Int32), runF kd wt wd cl L n φ = runF kd wt wd cl M n φ := by
  intro n
  induction n with
  | zero => intro φ; rfl
  | succ n ih => intro φ; unfold runF; rw [fstep_L h, ih]
theorem stepA {kd wt wd cl : Int32} {L φ ψ : Nat → Int32} {k : Nat} (h : EqA φ ψ) : EqA (stepF kd wt wd cl L φ k) (stepF kd wt wd cl L ψ k) := by
  have e2 := h 2 (by decide) (by decide)
  have e3 := h 3 (by decide) (by decide)
  have e4 := h 4 (by decide) (by decide)
  have e5 := h 5 (by decide) (by decide)
  have e6 := h 6 (by decide) (by decide)
  have e7 := h 7 (by decide) (by decide)
  have e8 := h 8 (by decide) (by decide)
  intro j h1 h2
  have d9 : ¬ j = 9 := by omega
  have d10 : ¬ j = 10 := by omega
  simp only [stepF, tk_slant, tk_turn, tk_told, tk_plain, tk_side, tk_down, tk_fell, e2, e3, e4, e5, e6, e7, e8, h j h1 h2, d9, d10, if_false]
theorem fstepA {kd wt wd cl : Int32} {L φ ψ : Nat → Int32} (h : EqA φ ψ) : EqA (fstep kd wt wd cl L φ) (fstep kd wt wd cl L ψ) := by
  unfold fstep
  rw [h 5 (by decide) (by decide)]
  exact stepA h
theorem VF.congrA {n : Nat} {φ ψ : Nat → Int32} (h : EqA φ ψ) (v : VF n φ) : VF n ψ := by
  unfold VF at *
  rw [← h 5 (by decide) (by decide), ← h 2 (by decide) (by decide), ← h 6 (by decide) (by decide), ← h 7 (by decide) (by decide), ← h 8 (by decide) (by decide), ← h 3 (by decide) (by decide)]
  exact v
theorem stepF_out {kd wt wd cl : Int32} {L φ : Nat → Int32} {k j : Nat} (h : j < 2 ∨ 10 < j) : stepF kd wt wd cl L φ k j = φ j := by
  have q : ∀ m, 2 ≤ m → m ≤ 10 → j ≠ m := fun m h1 h2 => by omega
  simp [stepF, q 2 (by decide) (by decide), q 3 (by decide) (by decide), q 4 (by decide) (by decide), q 5 (by decide) (by decide), q 6 (by decide) (by decide), q 7 (by decide) (by decide), q 8 (by decide) (by decide), q 9 (by decide) (by decide), q 10 (by decide) (by decide)]
/-- the class's tick, as rows -/
theorem x_tick {T : TM} {I : IM} {P : PM} {a b c n : Nat} {kd : Int32} (hP : P a 0 = some c) (hc : isF T c = true) (hK : kmapR (T.2.1 c) kd) (hw : ¬ I c 2 ≤ 0) (hba : b ≠ a) (hca : c ≠ a) (v : VF n (I a)) (hn : n < 300000) :
    ∃ I', F_X1_step T I P a b = some I' ∧ (∀ x, x ≠ a → I' x = I x) ∧ I' a = fstep kd (I a 1) (I c 2) (I c 3) (I b) (I a) ∧ VF (n + 1) (I' a) := by
  have v0 := v
  obtain ⟨⟨k, hk, h5⟩, h2, -⟩ := v
  obtain ⟨I', e, f1, f2, f3⟩ := x_step hP hc hK hk h5 hw hba hca (by rw [h2, nI_toInt (by omega)]; omega) (by rw [h2, nI_toInt (by omega)]; omega)
  have hr : I' a = fstep kd (I a 1) (I c 2) (I c 3) (I b) (I a) := by
    rw [fstep_at hk h5]
    funext j
    by_cases hj : 2 ≤ j ∧ j ≤ 10
    · exact f3 j hj.1 hj.2
    · rw [f2 j (by omega), stepF_out (by omega)]
  exact ⟨I', e, f1, hr, by rw [hr]; exact v0.step hn⟩
/-- the reference's tick, as rows -/
theorem m_tickR {I : IM} {n : Nat} (hs : SinOK (I 105)) (hw : ¬ I 101 21 = 0) (v : VF n (mrow I)) (hn : n < 300000) : ∃ I', F_X12_ticksOn I = some I' ∧ (∀ a, a ≠ 101 → I' a = I a) ∧ (∀ j, j < 23 ∨ 31 < j → I' 101 j = I 101 j) ∧ mrow I' = fstep (I 101 19) (I 101 20) (I 101 21) (I 101 22) (I 103) (mrow I) ∧ VF (n + 1) (mrow I') := by
  have v0 := v
  obtain ⟨⟨k, hk, h5⟩, -⟩ := v
  obtain ⟨I', e, f1, f2, f3⟩ := m_tick hs hk h5 hw
  have hr : mrow I' = fstep (I 101 19) (I 101 20) (I 101 21) (I 101 22) (I 103) (mrow I) := by
    rw [fstep_at hk h5]
    funext j
    by_cases hj : 2 ≤ j ∧ j ≤ 10
    · exact f3 j hj.1 hj.2
    · rw [stepF_out (by omega)]
      exact f2 (j + 21) (by omega)
  exact ⟨I', e, f1, f2, hr, by rw [hr]; exact v0.step hn⟩
theorem fstep_1 {kd wt wd cl : Int32} {L φ : Nat → Int32} : fstep kd wt wd cl L φ 1 = φ 1 := stepF_out (by omega)
theorem runF_1 {kd wt wd cl : Int32} {L : Nat → Int32} : ∀ (n : Nat) (φ : Nat → Int32), runF kd wt wd cl L n φ 1 = φ 1 := by
  intro n
  induction n with
  | zero => intro φ; rfl
  | succ n ih => intro φ; unfold runF; split
                 · rw [ih, fstep_1]
                 · rfl
theorem runF_VF {kd wt wd cl : Int32} {L : Nat → Int32} : ∀ (m n : Nat) (φ : Nat → Int32), VF n φ → n + m < 300000 → ∃ k, n ≤ k ∧ k ≤ n + m ∧ VF k (runF kd wt wd cl L m φ) ∧ (0 < runF kd wt wd cl L m φ 4 → k = n + m) := by
  intro m
  induction m with
  | zero => intro n φ v _; exact ⟨n, Nat.le_refl _, by omega, v, fun _ => rfl⟩
  | succ m ih =>
    intro n φ v hn
    unfold runF
    by_cases h : 0 < φ 4
    · rw [if_pos h]
      obtain ⟨k, h1, h2, h3, h4⟩ := ih (n + 1) (fstep kd wt wd cl L φ) (v.step (by omega)) (by omega)
      exact ⟨k, by omega, by omega, h3, fun q => by rw [h4 q]; omega⟩
    · rw [if_neg h]
      exact ⟨n, Nat.le_refl _, by omega, v, fun q => absurd q h⟩
/-- the class's loop of a fall -/
theorem x_loop {N : Nat} {T : TM} {P : PM} {a b c : Nat} {kd wt wd cl : Int32} {L : Nat → Int32} (hP : P a 0 = some c) (hc : isF T c = true) (hK : kmapR (T.2.1 c) kd) (hba : b ≠ a) (hca : c ≠ a) (hw : ¬ wd ≤ 0) : ∀ (m i n : Nat) (I : IM), m + i = 400 → VF n (I a) → n + m < 300000 → I a 1 = wt → I c 2 = wd → I c 3 = cl → I b = L → ∀ f, m < f → ∃ I', G_X1_runOut_2 N T P a b f (nI i) I = some ((if 0 < runF kd wt wd cl L m (I a) 4 then 0 else 1), I') ∧ (∀ x, x ≠ a → I' x = I x) ∧ I' a = runF kd wt wd cl L m (I a) := by
  intro m
  induction m with
  | zero =>
    intro i n I hmi v hn e1 e2 e3 e4 f hf
    obtain ⟨f, rfl⟩ : ∃ g, f = g + 1 := ⟨f - 1, by omega⟩
    have h400 : (400 : Int32) ≤ nI i := by
      rw [show i = 400 by omega]
      decide
    refine ⟨I, ?_, fun _ _ => rfl, rfl⟩
    rw [G_X1_runOut_2, if_pos h400]
    rfl
  | succ m ih =>
    intro i n I hmi v hn e1 e2 e3 e4 f hf
    obtain ⟨f, rfl⟩ : ∃ g, f = g + 1 := ⟨f - 1, by omega⟩
    have h400 : ¬ (400 : Int32) ≤ nI i := nI_ge (a := i) (b := 400) (by omega) (by decide)
    rw [G_X1_runOut_2, if_neg h400]
    by_cases h4 : 0 < I a 4
    · have hl : F_X1_landed I a = 0 := by unfold F_X1_landed; rw [if_pos h4]
      obtain ⟨I1, hI1, f1, hrow, v1⟩ := x_tick hP hc hK (by rw [e2]; exact hw) hba hca v (by omega)
      rw [e1, e2, e3, e4] at hrow
      obtain ⟨I2, hI2, g1, g2⟩ := ih (i + 1) (n + 1) I1 (by omega) v1 (by omega) (by rw [hrow, fstep_1]; exact e1) (by rw [f1 c hca]; exact e2) (by rw [f1 c hca]; exact e3) (by rw [f1 b hba]; exact e4) f (by omega)
      have hr : runF kd wt wd cl L (m + 1) (I a) = runF kd wt wd cl L m (I1 a) := by
        rw [hrow]
        exact if_pos h4
      rw [hr]
      refine ⟨I2, ?_, fun x hx => (g1 x hx).trans (f1 x hx), g2⟩
      rw [if_pos hl, hI1, ← nI_1] at *
      exact hI2
    · have hl : F_X1_landed I a = 1 := by unfold F_X1_landed; rw [if_neg h4]
      have hr : runF kd wt wd cl L (m + 1) (I a) = I a := if_neg h4
      rw [hr]
      refine ⟨I, ?_, fun _ _ => rfl, rfl⟩
      rw [hl, if_neg (by decide), if_neg h4]
theorem st0_VF {h a t : Int32} {k : Nat} (hk : k < 36) (ha : a = nI k) (ht : -9 ≤ t.toInt ∧ t.toInt ≤ 9) : VF 0 (st0 h a t) := by
  exact ⟨⟨k, hk, ha⟩, rfl, ht, (by decide : -9999 ≤ (0 : Int32).toInt ∧ (0 : Int32).toInt ≤ 9999), (by decide : -9999 ≤ (0 : Int32).toInt ∧ (0 : Int32).toInt ≤ 9999), (by decide : -(1250 * ((0 : Nat) : Int)) ≤ (0 : Int32).toInt ∧ (0 : Int32).toInt ≤ 1250 * ((0 : Nat) : Int))⟩
theorem msb_le (x : Int32) : 0 ≤ x ↔ x.toBitVec.msb = false := by
  rw [Int32.le_iff_toInt_le, show (0 : Int32).toInt = 0 from rfl, ← Int32.toInt_toBitVec]
  rw [BitVec.msb_eq_toInt]
  simp
theorem xor_sign {x y : Int32} (hy : 0 ≤ y) : 0 ≤ x ^^^ y ↔ 0 ≤ x := by
  rw [msb_le] at hy
  rw [msb_le, msb_le, Int32.toBitVec_xor, BitVec.msb_xor, hy]
  simp
theorem x_square {x : Int32} (h1 : -600000 ≤ x.toInt) (h2 : x.toInt ≤ 600000) : F_J9_floorDiv_7cf53 x 100 = some (if x < 0 then (-((99 - x) / 100)) else (x / 100)) := by
  have t100 : (100 : Int32).toInt = 100 := by decide
  have t99 : (99 : Int32).toInt = 99 := by decide
  have t1 : (1 : Int32).toInt = 1 := by decide
  unfold F_J9_floorDiv_7cf53 letb
  rw [if_pos (by decide)]
  show (if 0 ≤ x ^^^ 100 then some (x / 100) else if x / 100 * 100 = x then some (x / 100) else some (x / 100 - 1)) = _
  have hd : (x / 100).toInt = x.toInt.tdiv 100 := by
    have hn : (x.toInt.tdiv 100).natAbs = x.toInt.natAbs / 100 := Int.natAbs_tdiv _ _
    rw [Int32.toInt_div, t100]
    exact Int.bmod_eq_of_le (by omega) (by omega)
  by_cases h : x < 0
  · have hx : ¬ 0 ≤ x ^^^ 100 := by rw [xor_sign (by decide)]; exact Int32.not_le.mpr h
    rw [if_neg hx, if_pos h]
    have h0 : x.toInt < 0 := by rw [Int32.lt_iff_toInt_lt] at h; exact h
    have h99 : (99 - x).toInt = 99 - x.toInt := by rw [Int32.toInt_sub, t99, Int.bmod_eq_of_le (by omega) (by omega)]
    have e1 : ((99 - x) / 100).toInt = (99 - x.toInt) / 100 := by
      rw [Int32.toInt_div, t100, h99, Int.tdiv_eq_ediv_of_nonneg (by omega), Int.bmod_eq_of_le (by omega) (by omega)]
    have e2 : x.toInt.tdiv 100 = -((-x.toInt) / 100) := by
      have := Int.neg_tdiv (-x.toInt) 100
      rw [Int.neg_neg] at this
      rw [this, Int.tdiv_eq_ediv_of_nonneg (by omega)]
    have e3 : (x / 100 * 100).toInt = -((-x.toInt) / 100) * 100 := by
      rw [Int32.toInt_mul, t100, hd, e2, Int.bmod_eq_of_le (by omega) (by omega)]
    by_cases hq : x / 100 * 100 = x
    · rw [if_pos hq]
      have q := congrArg Int32.toInt hq
      rw [e3] at q
      apply congrArg
      apply Int32.toInt_inj.mp
      rw [hd, e2, Int32.toInt_neg, e1, Int.bmod_eq_of_le (by omega) (by omega)]
      omega
    · rw [if_neg hq]
      have q : ¬ (-((-x.toInt) / 100) * 100) = x.toInt := fun z => hq (Int32.toInt_inj.mp (by rw [e3, z]))
      apply congrArg
      apply Int32.toInt_inj.mp
      rw [Int32.toInt_sub, hd, e2, t1, Int32.toInt_neg, e1, Int.bmod_eq_of_le (by omega) (by omega), Int.bmod_eq_of_le (by omega) (by omega)]
      omega
  · have hx : 0 ≤ x ^^^ 100 := by rw [xor_sign (by decide)]; exact Int32.not_lt.mp h
    rw [if_pos hx, if_neg h]
theorem hand36 : ∀ k, k < 36 → ∀ i, i < 5 → F_X11_byHand (nI k) (nI i) = some (nI ((k + i + 34) % 36)) ∧ ((nI k + nI i) + 34) - ((nI k + nI i) + 34) / 36 * 36 = nI ((k + i + 34) % 36) := by decide +kernel
theorem next36 : ∀ k, k < 36 → (nI k + 1) - (nI k + 1) / 36 * 36 = nI ((k + 1) % 36) := by decide +kernel
