/-! PURE WORK 1: a tick -/
def sinT : List Int32 := [0, 174, 342, 500, 643, 766, 866, 940, 985, 1000, 985, 940, 866, 766, 643, 500, 342, 174, 0, -174, -342, -500, -643, -766, -866, -940, -985, -1000, -985, -940, -866, -766, -643, -500, -342, -174]
def sinN (k : Nat) : Int32 := sinT.getD k 0
theorem x_sine : ∀ k, k < 36 → F_X11_sineOf (nI k) = some (sinN k) := by decide +kernel
def SinOK (f : Nat → Int32) : Prop := ∀ j, j < 10 → f j = sinV.getD j 0
theorem m_sine0 : ∀ k, k < 36 → F_X12_sineOf (fun _ j => sinV.getD j 0) (nI k) = some (sinN k) := by decide +kernel
theorem m_sine {I : IM} (h : SinOK (I 105)) {k : Nat} (hk : k < 36) : F_X12_sineOf I (nI k) = some (sinN k) := by
  rw [← m_sine0 k hk]
  have key : ∀ (z : Int32) (g : Int32 → Option Int32), (if inb z 10 = true then g (I 105 z.toNatClampNeg) else none) = (if inb z 10 = true then g (sinV.getD z.toNatClampNeg 0) else none) := by
    intro z g
    by_cases hz : inb z 10 = true
    · rw [if_pos hz, if_pos hz, h _ (inb_lt hz)]
    · rw [if_neg hz, if_neg hz]
  exact key _ (fun y6 => if nI k ≤ 18 then some y6 else some (-y6))
theorem add9 : ∀ k, k < 36 → (nI k + 9) - (nI k + 9) / 36 * 36 = nI ((k + 9) % 36) := by decide +kernel
theorem m_cosine {I : IM} (h : SinOK (I 105)) {k : Nat} (hk : k < 36) : F_X12_cosineOf I (nI k) = some (sinN ((k + 9) % 36)) := by
  unfold F_X12_cosineOf
  rw [add9 k hk, m_sine h (Nat.mod_lt _ (by decide))]
  rfl
theorem t9999 : (9999 : Int32).toInt = 9999 := by decide
theorem t9999n : (-(9999 : Int32)).toInt = -9999 := by decide
theorem t9 : (9 : Int32).toInt = 9 := by decide
theorem t9n : (-(9 : Int32)).toInt = -9 := by decide
theorem held_9999 (v : Int32) : F_X11_heldTo v 9999 = F_X12_kept v 9999 := by
  unfold F_X11_heldTo F_X12_kept
  apply Int32.toInt_inj.mp
  simp only [Int32.lt_iff_toInt_lt, Int32.le_iff_toInt_le, t9999, t9999n]
  by_cases h1 : v.toInt < 9999 <;> by_cases h2 : v.toInt ≤ 9999 <;> by_cases h3 : -9999 ≤ v.toInt <;> by_cases h4 : -9999 < v.toInt <;> simp [h1, h2, h3, h4, t9999, t9999n] <;> omega
theorem held_9 (v : Int32) : F_X11_heldTo v 9 = F_X12_kept v 9 := by
  unfold F_X11_heldTo F_X12_kept
  apply Int32.toInt_inj.mp
  simp only [Int32.lt_iff_toInt_lt, Int32.le_iff_toInt_le, t9, t9n]
  by_cases h1 : v.toInt < 9 <;> by_cases h2 : v.toInt ≤ 9 <;> by_cases h3 : -9 ≤ v.toInt <;> by_cases h4 : -9 < v.toInt <;> simp [h1, h2, h3, h4, t9, t9n] <;> omega
theorem kept_9999 (v : Int32) : -9999 ≤ (F_X12_kept v 9999).toInt ∧ (F_X12_kept v 9999).toInt ≤ 9999 := by
  unfold F_X12_kept
  simp only [Int32.le_iff_toInt_le, t9999, t9999n]
  by_cases h2 : v.toInt ≤ 9999 <;> by_cases h3 : -9999 ≤ v.toInt <;> simp [h2, h3, t9999, t9999n] <;> omega
theorem kept_9 (v : Int32) : -9 ≤ (F_X12_kept v 9).toInt ∧ (F_X12_kept v 9).toInt ≤ 9 := by
  unfold F_X12_kept
  simp only [Int32.le_iff_toInt_le, t9, t9n]
  by_cases h2 : v.toInt ≤ 9 <;> by_cases h3 : -9 ≤ v.toInt <;> simp [h2, h3, t9, t9n] <;> omega
theorem of_range {x : Int32} {lo : Int} {n : Nat} {L : Int32} (hL : L.toInt = lo) (h1 : lo ≤ x.toInt) (h2 : x.toInt < lo + n) (hn : n ≤ 100000) (hl : -100000 ≤ lo ∧ lo ≤ 100000) : ∃ t, t < n ∧ x = nI t + L := by
  refine ⟨(x.toInt - lo).toNat, by omega, ?_⟩
  apply Int32.toInt_inj.mp
  rw [Int32.toInt_add, nI_toInt (by omega), hL, Int.bmod_eq_of_le (by omega) (by omega)]
  omega
theorem fmod36 : ∀ k, k < 36 → ∀ t, t < 19 → F_J9_floorMod_7cf53 (nI k + (nI t + (-9))) 36 = some (((nI k + (nI t + (-9))) + 36) - ((nI k + (nI t + (-9))) + 36) / 36 * 36) ∧ ∃ j, j < 36 ∧ ((nI k + (nI t + (-9))) + 36) - ((nI k + (nI t + (-9))) + 36) / 36 * 36 = nI j := by
  have h : ∀ k, k < 36 → ∀ t, t < 19 → F_J9_floorMod_7cf53 (nI k + (nI t + (-9))) 36 = some (nI ((k + t + 27) % 36)) ∧ ((nI k + (nI t + (-9))) + 36) - ((nI k + (nI t + (-9))) + 36) / 36 * 36 = nI ((k + t + 27) % 36) := by decide +kernel
  intro k hk t ht
  obtain ⟨h1, h2⟩ := h k hk t ht
  exact ⟨by rw [h1, h2], _, Nat.mod_lt _ (by decide), h2⟩
/-- a tick: what it makes of ticks, across, height, slant, turn, side, down, swings, rounds (at 2 to 10) -/
def tk_side (L φ : Nat → Int32) (k : Nat) : Int32 := F_X12_kept (φ 7 + ((((φ 8 * sinN k) / 1000 * L 0) / 32 - (φ 7 * L 1) / 64) + ((L 5 - 32) / 4))) 9999
def tk_fell (wt : Int32) (L φ : Nat → Int32) (k : Nat) : Int32 := (φ 8 + wt) - (φ 8 * (L 1 + (L 2 * F_X12_bare (sinN ((k + 9) % 36))) / 1000)) / 64
def tk_down (kd wt : Int32) (L φ : Nat → Int32) (k : Nat) : Int32 := F_X12_kept (if kd = 5 then tk_fell wt L φ k / 2 else tk_fell wt L φ k) 9999
def tk_plain (wd cl : Int32) (L φ : Nat → Int32) (k : Nat) : Int32 := ((φ 6 + (((tk_side L φ k * sinN ((k + 9) % 36)) / 1000 * L 3) / 1024)) - (φ 6 * L 4) / 64) + cl / wd
def toldG (kd pl sl tn : Int32) : Int32 :=
  if kd = 1 then 0 else if kd = 2 then (if F_X12_in sl 10 26 = 0 then pl else -pl) else if kd = 3 then pl + (if tn < 0 then (-1) else 1) else if kd = 4 then (if sl = 0 then 0 else if 18 < sl then 1 else (-1)) else if kd = 5 then pl + (if tn < 0 then (-1) else 1) else pl
def tk_told (kd wd cl : Int32) (L φ : Nat → Int32) (k : Nat) : Int32 := toldG kd (tk_plain wd cl L φ k) (φ 5) (φ 6)
def tk_turn (kd wd cl : Int32) (L φ : Nat → Int32) (k : Nat) : Int32 := F_X12_kept (tk_told kd wd cl L φ k) 9
def tk_slant (kd wd cl : Int32) (L φ : Nat → Int32) (k : Nat) : Int32 := ((φ 5 + tk_turn kd wd cl L φ k) + 36) - ((φ 5 + tk_turn kd wd cl L φ k) + 36) / 36 * 36
def tk_sw (told t0 t1 : Int32) : Int32 := if told ≤ 1 then 0 else (if t0 ≤ 0 then (if 0 ≤ t0 then 0 else (if t1 ≤ 0 then 0 else 1)) else (if t1 < 0 then 1 else (if 0 ≤ t0 then 0 else (if t1 ≤ 0 then 0 else 1))))
def tk_rd (s0 s1 : Int32) : Int32 := if s0 < 27 then (if 8 < s0 then 0 else (if s1 < 27 then 0 else 1)) else (if s1 ≤ 8 then 1 else (if 8 < s0 then 0 else (if s1 < 27 then 0 else 1)))
def stepF (kd wt wd cl : Int32) (L φ : Nat → Int32) (k : Nat) : Nat → Int32 := fun j =>
  if j = 2 then φ 2 + 1 else if j = 3 then φ 3 + tk_side L φ k / 8 else if j = 4 then φ 4 - tk_down kd wt L φ k / 8 else if j = 5 then tk_slant kd wd cl L φ k else if j = 6 then tk_turn kd wd cl L φ k else if j = 7 then tk_side L φ k else if j = 8 then tk_down kd wt L φ k else if j = 9 then φ 9 + tk_sw (φ 2 + 1) (φ 6) (tk_turn kd wd cl L φ k) else if j = 10 then φ 10 + tk_rd (φ 5) (tk_slant kd wd cl L φ k) else φ j
/-- the reference's numbers of a fall, as the class has them -/
def mrow (I : IM) : Nat → Int32 := fun j => I 101 (j + 21)
theorem m_plain {I : IM} {k : Nat} (hs : SinOK (I 105)) (hk : k < 36) (h5 : I 101 26 = nI k) (hw : ¬ I 101 21 = 0) : F_X12_plainTurn I = some ((((I 101 27) + (((((I 101 28) * sinN ((k + 9) % 36)) / 1000) * (I 103 3)) / 1024)) - (((I 101 27) * (I 103 4)) / 64)) + ((I 101 22) / (I 101 21))) := by
  unfold F_X12_plainTurn
  rw [h5, m_cosine hs hk]
  simp only [Option.bind_some, if_pos hw]
theorem bind_some_self {α : Type} (o : Option α) : o.bind (fun x => some x) = o := by cases o <;> rfl
theorem m_told {I : IM} {k : Nat} (hs : SinOK (I 105)) (hk : k < 36) (h5 : I 101 26 = nI k) (hw : ¬ I 101 21 = 0) : F_X12_toldTurn I = some (toldG (I 101 19) ((((I 101 27) + (((((I 101 28) * sinN ((k + 9) % 36)) / 1000) * (I 103 3)) / 1024)) - (((I 101 27) * (I 103 4)) / 64)) + ((I 101 22) / (I 101 21))) (I 101 26) (I 101 27)) := by
  unfold F_X12_toldTurn toldG
  rw [m_plain hs hk h5 hw]
  simp only [Option.bind_some, letb]
  repeat' split
  all_goals rfl
/-- one tick of the reference -/
theorem m_tick {I : IM} {k : Nat} (hs : SinOK (I 105)) (hk : k < 36) (h5 : I 101 26 = nI k) (hw : ¬ I 101 21 = 0) : ∃ I', F_X12_ticksOn I = some I' ∧ (∀ a, a ≠ 101 → I' a = I a) ∧ (∀ j, j < 23 ∨ 31 < j → I' 101 j = I 101 j) ∧ ∀ j, 2 ≤ j → j ≤ 10 → mrow I' j = stepF (I 101 19) (I 101 20) (I 101 21) (I 101 22) (I 103) (mrow I) k j := by
  refine ⟨?w, ?h, ?a, ?b, ?c⟩
  case h =>
    unfold F_X12_ticksOn
    simp only [letb]
    rw [h5, m_sine hs hk]
    simp only [Option.bind_some]
    rw [m_cosine hs hk]
    simp only [Option.bind_some]
    rw [m_told (k := k) (by rw [up2_oth _ _ _ (by decide), up2_oth _ _ _ (by decide)]; exact hs) hk (by simpa [up2] using h5) (by simpa [up2] using hw)]
    simp only [Option.bind_some]
    exact rfl
  case a =>
    intro a ha
    simp only [up2_oth _ _ _ ha]
  case b =>
    intro j hj
    have e : ∀ m, 23 ≤ m → m ≤ 31 → j ≠ m := fun m h1 h2 => by omega
    simp [up2, e 23 (by decide) (by decide), e 24 (by decide) (by decide), e 25 (by decide) (by decide), e 26 (by decide) (by decide), e 27 (by decide) (by decide), e 28 (by decide) (by decide), e 29 (by decide) (by decide), e 30 (by decide) (by decide), e 31 (by decide) (by decide)]
  case c =>
    intro j h1 h2
    have : j = 2 ∨ j = 3 ∨ j = 4 ∨ j = 5 ∨ j = 6 ∨ j = 7 ∨ j = 8 ∨ j = 9 ∨ j = 10 := by omega
    rcases this with rfl | rfl | rfl | rfl | rfl | rfl | rfl | rfl | rfl
    all_goals simp [h5, stepF, up2, tk_slant, tk_turn, tk_told, tk_plain, tk_side, tk_down, tk_fell, tk_sw, tk_rd, mrow]
