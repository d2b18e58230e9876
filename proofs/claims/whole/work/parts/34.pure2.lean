/-! PURE WORK 2: the class's tick -/
def kmapR (K : Nat) (kd : Int32) : Prop := (K = 0 ∧ kd = 0) ∨ (K = 4 ∧ kd = 1) ∨ (K = 5 ∧ kd = 2) ∨ (K = 8 ∧ kd = 3) ∨ (K = 2 ∧ kd = 4) ∨ (K = 9 ∧ kd = 5)
theorem up2_id {α : Type} (I : Nat → Nat → α) (a k : Nat) : up2 I a k (I a k) = I := by
  funext b j
  by_cases h : b = a ∧ j = k
  · simp [up2, h.1, h.2]
  · simp [up2, h]
theorem x_down {T : TM} {c : Nat} {kd y : Int32} (hK : kmapR (T.2.1 c) kd) : F_V_downTold T c y = (if kd = 5 then y / 2 else y) := by
  unfold F_V_downTold F_X0_downTold F_X9_downTold
  rcases hK with ⟨h, rfl⟩ | ⟨h, rfl⟩ | ⟨h, rfl⟩ | ⟨h, rfl⟩ | ⟨h, rfl⟩ | ⟨h, rfl⟩ <;> simp [h]
theorem x_plain {T : TM} {I : IM} {c a b : Nat} {cs : Int32} (hw : ¬ I c 2 ≤ 0) : F_X0_turnTold T I c a cs b = some (((((I a 6) + (((((I a 7) * cs) / 1000) * (I b 3)) / 1024)) - (((I a 6) * (I b 4)) / 64)) + ((I c 3) / (I c 2)))) := by
  unfold F_X0_turnTold letb
  have h0 : ¬ I c 2 = 0 := fun e => hw (by rw [e]; decide)
  rw [if_neg hw, if_pos h0]
theorem in1026 (s : Int32) : F_X12_in s 10 26 = (if s < 10 then 0 else if 26 < s then 0 else 1) := rfl
theorem x_told {T : TM} {I : IM} {c a b : Nat} {cs kd : Int32} (hK : kmapR (T.2.1 c) kd) (hw : ¬ I c 2 ≤ 0) : F_V_turnTold T I c a cs b = some (toldG kd (((((I a 6) + (((((I a 7) * cs) / 1000) * (I b 3)) / 1024)) - (((I a 6) * (I b 4)) / 64)) + ((I c 3) / (I c 2)))) (I a 5) (I a 6)) := by
  unfold F_V_turnTold F_X5_turnTold F_X8_turnTold F_X2_turnTold F_X4_turnTold
  rw [x_plain hw]
  generalize (((((I a 6) + (((((I a 7) * cs) / 1000) * (I b 3)) / 1024)) - (((I a 6) * (I b 4)) / 64)) + ((I c 3) / (I c 2)))) = pl
  unfold toldG
  rcases hK with ⟨h, rfl⟩ | ⟨h, rfl⟩ | ⟨h, rfl⟩ | ⟨h, rfl⟩ | ⟨h, rfl⟩ | ⟨h, rfl⟩
  · simp [h]
  · simp [h]
  · simp [h, in1026]
    by_cases h1 : I a 5 < 10
    · simp [h1, Int32.not_le.mpr h1]
    · by_cases h2 : 26 < I a 5
      · simp [h1, h2, Int32.not_le.mpr h2]
      · simp [h1, h2, Int32.not_lt.mp h1, Int32.not_lt.mp h2]
  · simp [h, letb]
  · simp [h]
  · simp [h, letb]
theorem t1 : (1 : Int32).toInt = 1 := by decide
theorem t0 : (0 : Int32).toInt = 0 := by decide
theorem inc_le {x : Int32} (h0 : 0 ≤ x.toInt) (h : x.toInt < 2 ^ 30) : (x + 1 ≤ 1) ↔ (x ≤ 0) := by
  rw [Int32.le_iff_toInt_le, Int32.le_iff_toInt_le, Int32.toInt_add, t1, t0, Int.bmod_eq_of_le (by omega) (by omega)]
  omega
theorem x_swing {I : IM} {a : Nat} {p : Int32} (h0 : 0 ≤ (I a 2).toInt) (h : (I a 2).toInt < 2 ^ 30) : F_X1_countSwing I a p = some (up2 I a 9 (I a 9 + tk_sw (I a 2 + 1) p (I a 6))) := by
  unfold F_X1_countSwing tk_sw letb
  have e := inc_le h0 h
  have z : I a 9 + 0 = I a 9 := Int32.add_zero _
  by_cases c1 : I a 2 ≤ 0
  · simp [c1, e.mpr c1, z, up2_id]
  · have c1' : ¬ I a 2 + 1 ≤ 1 := fun q => c1 (e.mp q)
    by_cases c2 : p ≤ 0 <;> by_cases c3 : 0 ≤ p <;> by_cases c4 : I a 6 ≤ 0 <;> by_cases c5 : I a 6 < 0 <;> simp [c1, c1', c2, c3, c4, c5, z, up2_id]
theorem x_round {I : IM} {a : Nat} {p : Int32} : F_X1_countRound I a p = some (up2 I a 10 (I a 10 + tk_rd p (I a 5))) := by
  unfold F_X1_countRound tk_rd letb
  have z : I a 10 + 0 = I a 10 := Int32.add_zero _
  by_cases c1 : p < 27 <;> by_cases c2 : 8 < p <;> by_cases c3 : I a 5 < 27 <;> by_cases c4 : I a 5 ≤ 8 <;> simp [c1, c2, c3, c4, z, up2_id]
theorem abs_sin : ∀ k, k < 36 → (if 0 ≤ sinN k then sinN k else 0 - sinN k) = F_X12_bare (sinN k) := by decide +kernel
theorem add4 (x A B C : Int32) : x + A - B + C = x + (A - B + C) := by
  simp only [Int32.sub_eq_add_neg, Int32.add_assoc]
/-- one tick of the class -/
theorem x_step {T : TM} {I : IM} {P : PM} {a b c k : Nat} {kd : Int32} (hP : P a 0 = some c) (hc : isF T c = true) (hK : kmapR (T.2.1 c) kd) (hk : k < 36) (h5 : I a 5 = nI k) (hw : ¬ I c 2 ≤ 0) (hba : b ≠ a) (hca : c ≠ a) (ht0 : 0 ≤ (I a 2).toInt) (ht : (I a 2).toInt < 2 ^ 30) :
    ∃ I', F_X1_step T I P a b = some I' ∧ (∀ x, x ≠ a → I' x = I x) ∧ (∀ j, j < 2 ∨ 10 < j → I' a j = I a j) ∧ ∀ j, 2 ≤ j → j ≤ 10 → I' a j = stepF kd (I a 1) (I c 2) (I c 3) (I b) (I a) k j := by
  obtain ⟨t, htt, hturn⟩ : ∃ t, t < 19 ∧ tk_turn kd (I c 2) (I c 3) (I b) (I a) k = nI t + (-9) := by
    have h9 : -9 ≤ (tk_turn kd (I c 2) (I c 3) (I b) (I a) k).toInt ∧ (tk_turn kd (I c 2) (I c 3) (I b) (I a) k).toInt ≤ 9 := kept_9 (tk_told kd (I c 2) (I c 3) (I b) (I a) k)
    exact of_range (lo := -9) (n := 19) (by decide) h9.1 (by omega) (by decide) (by decide)
  have hfm : F_J9_floorMod_7cf53 (nI k + tk_turn kd (I c 2) (I c 3) (I b) (I a) k) 36 = some (tk_slant kd (I c 2) (I c 3) (I b) (I a) k) := by
    unfold tk_slant
    rw [h5, hturn]
    exact (fmod36 k hk t htt).1
  have hside : F_X11_heldTo ((((I a 7) + (((((I a 8) * sinN k) / 1000) * (I b 0)) / 32)) - (((I a 7) * (I b 1)) / 64)) + (((I b 5) - 32) / 4)) 9999 = tk_side (I b) (I a) k := by
    rw [held_9999, add4]
    rfl
  refine ⟨?w, ?h, ?a, ?b, ?c⟩
  case h =>
    unfold F_X1_step
    rw [osel_s hP, h5, x_sine k hk]
    simp only [Option.bind_some]
    rw [add9 k hk, x_sine _ (Nat.mod_lt _ (by decide))]
    simp only [Option.bind_some, letb]
    rw [if_pos hc, hside, abs_sin _ (Nat.mod_lt _ (by decide)), x_down hK, held_9999]
    rw [x_told hK (by rw [up2_oth _ _ _ hca, up2_oth _ _ _ hca]; exact hw)]
    simp only [Option.bind_some, held_9]
    have e2 : ∀ w : Int32, toldG kd ((((up2 (up2 I a 7 (tk_side (I b) (I a) k)) a 8 w) a 6 + ((((up2 (up2 I a 7 (tk_side (I b) (I a) k)) a 8 w) a 7 * sinN ((k + 9) % 36)) / 1000) * (up2 (up2 I a 7 (tk_side (I b) (I a) k)) a 8 w) b 3) / 1024) - ((up2 (up2 I a 7 (tk_side (I b) (I a) k)) a 8 w) a 6 * (up2 (up2 I a 7 (tk_side (I b) (I a) k)) a 8 w) b 4) / 64) + (up2 (up2 I a 7 (tk_side (I b) (I a) k)) a 8 w) c 3 / (up2 (up2 I a 7 (tk_side (I b) (I a) k)) a 8 w) c 2) ((up2 (up2 I a 7 (tk_side (I b) (I a) k)) a 8 w) a 5) ((up2 (up2 I a 7 (tk_side (I b) (I a) k)) a 8 w) a 6) = tk_told kd (I c 2) (I c 3) (I b) (I a) k := fun w => by simp [up2, hba, hca, tk_told, tk_plain]
    rw [e2]
    have e1 : ∀ z w v, (up2 (up2 (up2 I a 7 z) a 8 w) a 6 v) a 5 + (up2 (up2 (up2 I a 7 z) a 8 w) a 6 v) a 6 = nI k + v := fun z w v => by simp [up2, h5]
    rw [e1, show F_X12_kept (tk_told kd (I c 2) (I c 3) (I b) (I a) k) 9 = tk_turn kd (I c 2) (I c 3) (I b) (I a) k from rfl, hfm]
    simp only [Option.bind_some]
    rw [x_swing (by simpa [up2] using ht0) (by simpa [up2] using ht)]
    simp only [Option.bind_some]
    rw [x_round]
    simp only [Option.bind_some]
    exact rfl
  case a =>
    intro x hx
    simp only [up2_oth _ _ _ hx]
  case b =>
    intro j hj
    have e : ∀ m, 2 ≤ m → m ≤ 10 → j ≠ m := fun m h1 h2 => by omega
    simp [up2, e 2 (by decide) (by decide), e 3 (by decide) (by decide), e 4 (by decide) (by decide), e 5 (by decide) (by decide), e 6 (by decide) (by decide), e 7 (by decide) (by decide), e 8 (by decide) (by decide), e 9 (by decide) (by decide), e 10 (by decide) (by decide)]
  case c =>
    intro j h1 h2
    have : j = 2 ∨ j = 3 ∨ j = 4 ∨ j = 5 ∨ j = 6 ∨ j = 7 ∨ j = 8 ∨ j = 9 ∨ j = 10 := by omega
    rcases this with rfl | rfl | rfl | rfl | rfl | rfl | rfl | rfl | rfl
    all_goals simp [stepF, up2, tk_down, tk_fell, h5]
