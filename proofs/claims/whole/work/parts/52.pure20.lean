/-! acts -/
section
variable {s : Nat} {T : TM} {I I' I'' : IM} {J : JM} {P : PM}
theorem lt30n {i : Nat} (h : i < 30) : ¬ (30 : Int32) ≤ nI i := nI_ge (a := i) (b := 30) h (by decide)
def EL (f : Nat → Int32) (t : List Int32) : Prop := ∀ j, j < t.length → f j = t.getD j 0
theorem EL.snoc {f g : Nat → Int32} {t : List Int32} {b : Int32} (h : EL f t) (h1 : g t.length = b) (h2 : ∀ j, j ≠ t.length → g j = f j) : EL g (t ++ [b]) := by
  intro j hj
  simp only [List.length_append, List.length_cons, List.length_nil] at hj
  by_cases q : j = t.length
  · subst q
    rw [h1]
    simp [List.getD_eq_getElem?_getD]
  · have hj2 : j < t.length := by omega
    rw [h2 j q, h j hj2]
    simp [List.getD_eq_getElem?_getD, List.getElem?_append, hj2]
def TX (I : IM) (t : List Int32) (b : Int32) : Prop := t.length ≤ 20 ∧ I 82 1 = nI t.length ∧ I 82 2 = b ∧ EL (I 83) t
def FX (I I' : IM) : Prop := ∀ x, x ≠ 82 → x ≠ 83 → I' x = I x
theorem FX.tr (h : FX I I') (h2 : FX I' I'') : FX I I'' := fun x a b => (h2 x a b).trans (h x a b)
theorem x_began {t : List Int32} {b : Int32} (h : TX I t 0) (hl : t.length < 20) : ∃ I', F_X7_began I b = some I' ∧ TX I' (t ++ [b]) 0 ∧ FX I I' := by
  obtain ⟨h1, h2, h3, h4⟩ := h
  refine ⟨up2 (up2 I 83 t.length b) 82 1 (nI (t.length + 1)), ?_, ⟨?_, ?_, ?_, ?_⟩, ?_⟩
  · unfold F_X7_began
    rw [h3, if_pos rfl, h2, if_neg (lt30n (by omega)), if_pos (inbN (by omega) (by decide)), nI_clamp (by omega)]
    simp only [letb]
    rw [up2_n _ _ (by omega), h2, nI_1]
  · simp only [List.length_append, List.length_cons, List.length_nil]; omega
  · rw [up2_s]; simp only [List.length_append, List.length_cons, List.length_nil]
  · rw [up2_n _ _ (by omega), up2_n _ _ (by omega)]; exact h3
  · refine h4.snoc ?_ (fun j hj => ?_)
    · rw [up2_n _ _ (by omega), up2_s]
    · rw [up2_n _ _ (by omega), up2_n _ _ (by omega)]
  · intro x a b
    rw [up2_oth _ _ _ a, up2_oth _ _ _ b]
theorem x_brk {t : List Int32} {b : Int32} (h : TX I t 1) : F_X7_began I b = some I := by
  unfold F_X7_began
  rw [h.2.2.1, if_neg (by decide)]
def MX (I : IM) (t : List Int32) (b kd nm ow : Int32) : Prop := (t.length ≤ 20 ∧ I 101 48 = nI t.length ∧ I 101 49 = b ∧ EL (I 121) t) ∧ I 101 44 = kd ∧ I 101 45 = nm ∧ I 101 46 = ow
def FrM (I I' : IM) : Prop := (∀ x, x ≠ 101 → x ≠ 121 → I' x = I x) ∧ ∀ i, i ≠ 48 → i ≠ 49 → I' 101 i = I 101 i
theorem FrM.tr (h : FrM I I') (h2 : FrM I' I'') : FrM I I'' := ⟨fun x a b => (h2.1 x a b).trans (h.1 x a b), fun i a b => (h2.2 i a b).trans (h.2 i a b)⟩
theorem m_ran {t : List Int32} {b z kd nm ow : Int32} (h : MX I t z kd nm ow) (hl : t.length < 20) : ∃ I', F_X12_ran I b = some I' ∧ MX I' (t ++ [b]) z kd nm ow ∧ FrM I I' := by
  obtain ⟨⟨h1, h2, h3, h4⟩, h5, h6, h7⟩ := h
  refine ⟨up2 (up2 I 121 t.length b) 101 48 (nI (t.length + 1)), ?_, ⟨⟨?_, ?_, ?_, ?_⟩, ?_, ?_, ?_⟩, ?_, ?_⟩
  · unfold F_X12_ran
    rw [h2, if_neg (lt30n (by omega)), if_pos (inbN (by omega) (by decide)), nI_clamp (by omega)]
    simp only [letb]
    rw [up2_n _ _ (by omega), h2, nI_1]
  · simp only [List.length_append, List.length_cons, List.length_nil]; omega
  · rw [up2_s]; simp only [List.length_append, List.length_cons, List.length_nil]
  · rw [up2_n _ _ (by omega), up2_n _ _ (by omega)]; exact h3
  · refine h4.snoc ?_ (fun j hj => ?_)
    · rw [up2_n _ _ (by omega), up2_s]
    · rw [up2_n _ _ (by omega), up2_n _ _ (by omega)]
  · rw [up2_n _ _ (by omega), up2_n _ _ (by omega)]; exact h5
  · rw [up2_n _ _ (by omega), up2_n _ _ (by omega)]; exact h6
  · rw [up2_n _ _ (by omega), up2_n _ _ (by omega)]; exact h7
  · intro x a b
    rw [up2_oth _ _ _ a, up2_oth _ _ _ b]
  · intro i a b
    rw [up2_n _ _ (by omega), up2_n _ _ (by omega)]
theorem ap1 {t l : List Int32} {a : Int32} : (t ++ [a]) ++ l = t ++ (a :: l) := by simp
theorem len1 {t : List Int32} {a : Int32} : (t ++ [a]).length = t.length + 1 := by simp
def fallsV (kd nm x : Int32) : Int32 := if kd = 2 then (x + nm) * 3 else if kd = 4 then x + nm - nm else x + nm
def fallsT (kd : Int32) : List Int32 := if kd = 2 then [30, 10] else if kd = 4 then [51, 10] else [10]
def turnsV (kd nm ow x : Int32) : Int32 := if kd = 1 then fallsV kd nm x * 2 - ow else if kd = 4 then fallsV kd nm x * 2 - ow else if kd = 3 then 0 - fallsV kd nm x * 2 else if kd = 5 then 0 - fallsV kd nm x * 2 else fallsV kd nm x * 2
def turnsT (kd : Int32) : List Int32 := if kd = 1 then 20 :: 11 :: fallsT kd else if kd = 4 then 20 :: 11 :: fallsT kd else if kd = 3 then 40 :: 11 :: fallsT kd else if kd = 5 then 40 :: 11 :: fallsT kd else 11 :: fallsT kd
theorem fallsT_len (kd : Int32) : (fallsT kd).length ≤ 2 := by
  unfold fallsT
  repeat' split
  all_goals decide
theorem turnsT_len (kd : Int32) : (turnsT kd).length ≤ 4 := by
  have := fallsT_len kd
  unfold turnsT
  repeat' split
  all_goals simp only [List.length_cons]; omega
/-! the class -/
theorem x_fall0 {t : List Int32} {c : Nat} {x : Int32} (hc : 124 ≤ c) (h : TX I t 0) (hl : t.length < 20) : ∃ I', F_X0_falls T I c x = some (x + I c 0, I') ∧ TX I' (t ++ [10]) 0 ∧ FX I I' := by
  obtain ⟨I1, e, a, f⟩ := x_began (b := 10) h hl
  refine ⟨I1, ?_, a, f⟩
  unfold F_X0_falls
  rw [e]
  simp only [Option.bind_some]
  rw [f c (by omega) (by omega)]
theorem x_falls {t : List Int32} {c : Nat} {x kd : Int32} (hc : 124 ≤ c) (hK : kmapR (T.2.1 c) kd) (h : TX I t 0) (hl : t.length < 18) : ∃ I', F_V_falls T I c x = some (fallsV kd (I c 0) x, I') ∧ TX I' (t ++ fallsT kd) 0 ∧ FX I I' := by
  have p0 : F_V_falls T I c x = F_X0_falls T I c x → fallsV kd (I c 0) x = x + I c 0 → fallsT kd = [10] → ∃ I', F_V_falls T I c x = some (fallsV kd (I c 0) x, I') ∧ TX I' (t ++ fallsT kd) 0 ∧ FX I I' := by
    intro h1 h2 h3
    rw [h1, h2, h3]
    exact x_fall0 hc h (by omega)
  unfold F_V_falls at p0 ⊢
  rcases hK with ⟨k, rfl⟩ | ⟨k, rfl⟩ | ⟨k, rfl⟩ | ⟨k, rfl⟩ | ⟨k, rfl⟩ | ⟨k, rfl⟩
  · exact p0 (by simp [k]) rfl rfl
  · exact p0 (by simp [k]) rfl rfl
  · obtain ⟨I1, e1, a1, f1⟩ := x_began (b := 30) h (by omega)
    obtain ⟨I2, e2, a2, f2⟩ := x_fall0 (T := T) (x := x) hc a1 (by rw [len1]; omega)
    rw [ap1] at a2
    refine ⟨I2, ?_, a2, f1.tr f2⟩
    have : F_X5_falls T I c x = some ((x + I c 0) * 3, I2) := by
      unfold F_X5_falls
      rw [e1]
      simp only [Option.bind_some]
      rw [e2, f1 c (by omega) (by omega)]
      rfl
    simp [k, this, fallsV]
  · exact p0 (by simp [k]) rfl rfl
  · obtain ⟨I1, e1, a1, f1⟩ := x_began (b := 51) h (by omega)
    obtain ⟨I2, e2, a2, f2⟩ := x_fall0 (T := T) (x := x) hc a1 (by rw [len1]; omega)
    rw [ap1] at a2
    refine ⟨I2, ?_, a2, f1.tr f2⟩
    have : F_X2_falls T I c x = some ((x + I c 0) - I c 0, I2) := by
      unfold F_X2_falls
      rw [e1]
      simp only [Option.bind_some]
      rw [e2]
      simp only [Option.bind_some]
      rw [f2 c (by omega) (by omega), f1 c (by omega) (by omega)]
    have v : fallsV 4 (I c 0) x = x + I c 0 - I c 0 := rfl
    rw [v, ← this]
    simp only [k]
    rfl
  · exact p0 (by simp [k]) rfl rfl
theorem x_turn0 {t : List Int32} {c : Nat} {x kd : Int32} (hc : 124 ≤ c) (hK : kmapR (T.2.1 c) kd) (h : TX I t 0) (hl : t.length < 17) : ∃ I', F_X0_turns T I c x = some (fallsV kd (I c 0) x * 2, I') ∧ TX I' (t ++ 11 :: fallsT kd) 0 ∧ FX I I' := by
  obtain ⟨I1, e1, a1, f1⟩ := x_began (b := 11) h (by omega)
  obtain ⟨I2, e2, a2, f2⟩ := x_falls (x := x) hc hK a1 (by rw [len1]; omega)
  rw [ap1] at a2
  refine ⟨I2, ?_, a2, f1.tr f2⟩
  unfold F_X0_turns
  rw [e1]
  simp only [Option.bind_some]
  rw [e2, f1 c (by omega) (by omega)]
  rfl
theorem x_turns {t : List Int32} {c : Nat} {x kd : Int32} (hc : 124 ≤ c) (hK : kmapR (T.2.1 c) kd) (h : TX I t 0) (hl : t.length < 16) : ∃ I', F_V_turns T I c x = some (turnsV kd (I c 0) (I c 1) x, I') ∧ TX I' (t ++ turnsT kd) 0 ∧ FX I I' := by
  have hK0 := hK
  have p0 : F_V_turns T I c x = F_X0_turns T I c x → turnsV kd (I c 0) (I c 1) x = fallsV kd (I c 0) x * 2 → turnsT kd = 11 :: fallsT kd → ∃ I', F_V_turns T I c x = some (turnsV kd (I c 0) (I c 1) x, I') ∧ TX I' (t ++ turnsT kd) 0 ∧ FX I I' := by
    intro h1 h2 h3
    rw [h1, h2, h3]
    exact x_turn0 hc hK0 h (by omega)
  have p4 : F_V_turns T I c x = F_X4_turns T I c x → turnsV kd (I c 0) (I c 1) x = fallsV kd (I c 0) x * 2 - I c 1 → turnsT kd = 20 :: 11 :: fallsT kd → ∃ I', F_V_turns T I c x = some (turnsV kd (I c 0) (I c 1) x, I') ∧ TX I' (t ++ turnsT kd) 0 ∧ FX I I' := by
    intro h1 h2 h3
    rw [h1, h2, h3]
    obtain ⟨I1, e1, a1, f1⟩ := x_began (b := 20) h (by omega)
    obtain ⟨I2, e2, a2, f2⟩ := x_turn0 (x := x) hc hK0 a1 (by rw [len1]; omega)
    rw [ap1] at a2
    refine ⟨I2, ?_, a2, f1.tr f2⟩
    unfold F_X4_turns
    rw [e1]
    simp only [Option.bind_some]
    rw [e2]
    simp only [Option.bind_some]
    rw [f2 c (by omega) (by omega), f1 c (by omega) (by omega)]
  have p8 : F_V_turns T I c x = F_X8_turns T I c x → turnsV kd (I c 0) (I c 1) x = 0 - fallsV kd (I c 0) x * 2 → turnsT kd = 40 :: 11 :: fallsT kd → ∃ I', F_V_turns T I c x = some (turnsV kd (I c 0) (I c 1) x, I') ∧ TX I' (t ++ turnsT kd) 0 ∧ FX I I' := by
    intro h1 h2 h3
    rw [h1, h2, h3]
    obtain ⟨I1, e1, a1, f1⟩ := x_began (b := 40) h (by omega)
    obtain ⟨I2, e2, a2, f2⟩ := x_turn0 (x := x) hc hK0 a1 (by rw [len1]; omega)
    rw [ap1] at a2
    refine ⟨I2, ?_, a2, f1.tr f2⟩
    unfold F_X8_turns
    rw [e1]
    simp only [Option.bind_some]
    rw [e2, f1 c (by omega) (by omega)]
    rfl
  unfold F_V_turns at p0 p4 p8 ⊢
  rcases hK with ⟨k, rfl⟩ | ⟨k, rfl⟩ | ⟨k, rfl⟩ | ⟨k, rfl⟩ | ⟨k, rfl⟩ | ⟨k, rfl⟩
  · exact p0 (by simp [k]) rfl rfl
  · exact p4 (by simp [k]) rfl rfl
  · exact p0 (by simp [k]) rfl rfl
  · exact p8 (by simp [k]) rfl rfl
  · exact p4 (by simp [k]) rfl rfl
  · exact p8 (by simp [k]) rfl rfl
def shB (nm ow : Int32) : Int32 := if ow - nm = 0 then 1 else 0
def sharesT (kd nm ow : Int32) : List Int32 := if kd = 4 then [50, 12] else if kd = 5 then (if ow - nm = 0 then [61, 12] else [61, 12, 10]) else [12]
def sharesV (kd nm ow x : Int32) : Int32 := if kd = 4 then ((x + 2) / (ow - nm)) ^^^ 1 else if kd = 5 then x / (ow - nm) + (ow + nm) else x / (ow - nm)
theorem x_share0 {t : List Int32} {c : Nat} {x : Int32} (hc : 124 ≤ c) (h : TX I t 0) (hl : t.length < 20) : ∃ v I', F_X0_shares T I c x = some (v, I') ∧ TX I' (t ++ [12]) (shB (I c 0) (I c 1)) ∧ (shB (I c 0) (I c 1) = 0 → v = x / (I c 1 - I c 0)) ∧ FX I I' := by
  obtain ⟨I1, e1, a1, f1⟩ := x_began (b := 12) h hl
  unfold F_X0_shares shB
  rw [e1]
  simp only [Option.bind_some, letb]
  rw [f1 c (by omega) (by omega)]
  by_cases d : I c 1 - I c 0 = 0
  · rw [if_pos d, if_pos d]
    refine ⟨0, up2 I1 82 2 1, rfl, ?_, fun z => absurd z (by decide), fun x h1 h2 => by rw [up2_oth _ _ _ h1]; exact f1 x h1 h2⟩
    obtain ⟨b1, b2, b3, b4⟩ := a1
    exact ⟨b1, b2, rfl, b4⟩
  · rw [if_neg d, if_neg d, if_pos d]
    exact ⟨_, I1, rfl, a1, fun _ => rfl, f1⟩
theorem x_shares {t : List Int32} {c : Nat} {x kd : Int32} (hc : 124 ≤ c) (hK : kmapR (T.2.1 c) kd) (h : TX I t 0) (hl : t.length < 16) : ∃ v I', F_V_shares T I c x = some (v, I') ∧ TX I' (t ++ sharesT kd (I c 0) (I c 1)) (shB (I c 0) (I c 1)) ∧ (shB (I c 0) (I c 1) = 0 → v = sharesV kd (I c 0) (I c 1) x) ∧ FX I I' := by
  have p0 : F_V_shares T I c x = F_X0_shares T I c x → sharesV kd (I c 0) (I c 1) x = x / (I c 1 - I c 0) → sharesT kd (I c 0) (I c 1) = [12] → ∃ v I', F_V_shares T I c x = some (v, I') ∧ TX I' (t ++ sharesT kd (I c 0) (I c 1)) (shB (I c 0) (I c 1)) ∧ (shB (I c 0) (I c 1) = 0 → v = sharesV kd (I c 0) (I c 1) x) ∧ FX I I' := by
    intro h1 h2 h3
    rw [h1, h2, h3]
    exact x_share0 hc h (by omega)
  unfold F_V_shares at p0 ⊢
  rcases hK with ⟨k, rfl⟩ | ⟨k, rfl⟩ | ⟨k, rfl⟩ | ⟨k, rfl⟩ | ⟨k, rfl⟩ | ⟨k, rfl⟩
  · exact p0 (by simp [k]) rfl rfl
  · exact p0 (by simp [k]) rfl rfl
  · exact p0 (by simp [k]) rfl rfl
  · exact p0 (by simp [k]) rfl rfl
  · obtain ⟨I1, e1, a1, f1⟩ := x_began (b := 50) h (by omega)
    obtain ⟨v, I2, e2, a2, w, f2⟩ := x_share0 (T := T) (x := x + 2) hc a1 (by rw [len1]; omega)
    rw [ap1] at a2
    rw [f1 c (by omega) (by omega)] at a2 w
    refine ⟨v ^^^ 1, I2, ?_, a2, fun z => by rw [w z]; rfl, f1.tr f2⟩
    have : F_X2_shares T I c x = some (v ^^^ 1, I2) := by
      unfold F_X2_shares
      rw [e1]
      simp only [Option.bind_some]
      rw [e2]
      rfl
    rw [← this]
    simp only [k]
    rfl
  · obtain ⟨I1, e1, a1, f1⟩ := x_began (b := 61) h (by omega)
    obtain ⟨v, I2, e2, a2, w, f2⟩ := x_share0 (T := T) (x := x) hc a1 (by rw [len1]; omega)
    rw [ap1] at a2
    rw [f1 c (by omega) (by omega)] at a2 w
    have i2 : I2 c = I c := by rw [f2 c (by omega) (by omega), f1 c (by omega) (by omega)]
    by_cases d : I c 1 - I c 0 = 0
    · have hb : shB (I c 0) (I c 1) = 1 := if_pos d
      rw [hb] at a2 ⊢
      refine ⟨v + (I c 1 + I c 0), I2, ?_, ?_, fun z => absurd z (by decide), f1.tr f2⟩
      · have : F_X9_shares T I c x = some (v + (I c 1 + I c 0), I2) := by
          unfold F_X9_shares F_X0_falls
          rw [e1]
          simp only [Option.bind_some]
          rw [e2]
          simp only [Option.bind_some]
          rw [x_brk a2]
          simp only [Option.bind_some]
          rw [i2]
        rw [← this]
        simp only [k]
        rfl
      · have : sharesT 5 (I c 0) (I c 1) = [61, 12] := if_pos d
        rw [this]
        exact a2
    · have hb : shB (I c 0) (I c 1) = 0 := if_neg d
      rw [hb] at a2 ⊢
      obtain ⟨I3, e3, a3, f3⟩ := x_fall0 (T := T) (x := I2 c 1) hc a2 (by simp only [List.length_append, List.length_cons, List.length_nil]; omega)
      refine ⟨v + (I c 1 + I c 0), I3, ?_, ?_, fun z => by rw [w hb]; rfl, (f1.tr f2).tr f3⟩
      · have : F_X9_shares T I c x = some (v + (I c 1 + I c 0), I3) := by
          unfold F_X9_shares
          rw [e1]
          simp only [Option.bind_some]
          rw [e2]
          simp only [Option.bind_some]
          rw [e3, i2]
          rfl
        rw [← this]
        simp only [k]
        rfl
      · have : sharesT 5 (I c 0) (I c 1) = [61, 12, 10] := if_neg d
        rw [this]
        rw [List.append_assoc] at a3
        exact a3
def tellsT (kd : Int32) : List Int32 := if kd = 2 then 31 :: 13 :: (turnsT kd ++ [12]) else if kd = 5 then 60 :: 13 :: turnsT kd else 13 :: turnsT kd
def tellsB (kd nm ow : Int32) : Int32 := if kd = 2 then shB nm ow else 0
def tellsV (kd nm ow x : Int32) : Int32 := if kd = 2 then (turnsV kd nm ow x ^^^ ow) + nm / (ow - nm) else if kd = 5 then (turnsV kd nm ow x ^^^ ow) * 2 else turnsV kd nm ow x ^^^ ow
theorem x_tell0 {t : List Int32} {c : Nat} {x kd : Int32} (hc : 124 ≤ c) (hK : kmapR (T.2.1 c) kd) (h : TX I t 0) (hl : t.length < 14) : ∃ I', F_X0_tells T I c x = some (turnsV kd (I c 0) (I c 1) x ^^^ I c 1, I') ∧ TX I' (t ++ 13 :: turnsT kd) 0 ∧ FX I I' := by
  obtain ⟨I1, e1, a1, f1⟩ := x_began (b := 13) h (by omega)
  obtain ⟨I2, e2, a2, f2⟩ := x_turns (x := x) hc hK a1 (by rw [len1]; omega)
  rw [ap1] at a2
  refine ⟨I2, ?_, a2, f1.tr f2⟩
  unfold F_X0_tells
  rw [e1]
  simp only [Option.bind_some]
  rw [e2]
  simp only [Option.bind_some]
  rw [f2 c (by omega) (by omega), f1 c (by omega) (by omega)]
theorem x_tells {t : List Int32} {c : Nat} {x kd : Int32} (hc : 124 ≤ c) (hK : kmapR (T.2.1 c) kd) (h : TX I t 0) (hl : t.length < 10) : ∃ v I', F_V_tells T I c x = some (v, I') ∧ TX I' (t ++ tellsT kd) (tellsB kd (I c 0) (I c 1)) ∧ (tellsB kd (I c 0) (I c 1) = 0 → v = tellsV kd (I c 0) (I c 1) x) ∧ FX I I' := by
  have hK0 := hK
  have p0 : F_V_tells T I c x = F_X0_tells T I c x → tellsV kd (I c 0) (I c 1) x = turnsV kd (I c 0) (I c 1) x ^^^ I c 1 → tellsT kd = 13 :: turnsT kd → tellsB kd (I c 0) (I c 1) = 0 → ∃ v I', F_V_tells T I c x = some (v, I') ∧ TX I' (t ++ tellsT kd) (tellsB kd (I c 0) (I c 1)) ∧ (tellsB kd (I c 0) (I c 1) = 0 → v = tellsV kd (I c 0) (I c 1) x) ∧ FX I I' := by
    intro h1 h2 h3 h4
    rw [h1, h2, h3, h4]
    obtain ⟨I1, e1, a1, f1⟩ := x_tell0 (x := x) hc hK0 h (by omega)
    exact ⟨_, I1, e1, a1, fun _ => rfl, f1⟩
  unfold F_V_tells at p0 ⊢
  rcases hK with ⟨k, rfl⟩ | ⟨k, rfl⟩ | ⟨k, rfl⟩ | ⟨k, rfl⟩ | ⟨k, rfl⟩ | ⟨k, rfl⟩
  · exact p0 (by simp [k]) rfl rfl rfl
  · exact p0 (by simp [k]) rfl rfl rfl
  · obtain ⟨I1, e1, a1, f1⟩ := x_began (b := 31) h (by omega)
    obtain ⟨I2, e2, a2, f2⟩ := x_tell0 (x := x) hc hK0 a1 (by rw [len1]; omega)
    rw [ap1] at a2
    have i2 : I2 c = I c := by rw [f2 c (by omega) (by omega), f1 c (by omega) (by omega)]
    have hl2 : (t ++ 31 :: 13 :: turnsT 2).length < 20 := by
      have := turnsT_len 2
      simp only [List.length_append, List.length_cons]
      omega
    obtain ⟨v, I3, e3, a3, w, f3⟩ := x_share0 (T := T) (x := I2 c 0) hc a2 hl2
    rw [i2] at a3 w
    rw [f1 c (by omega) (by omega)] at e2
    refine ⟨(turnsV 2 (I c 0) (I c 1) x ^^^ I c 1) + v, I3, ?_, ?_, fun z => by rw [w z]; rfl, (f1.tr f2).tr f3⟩
    · have : F_X5_tells T I c x = some ((turnsV 2 (I c 0) (I c 1) x ^^^ I c 1) + v, I3) := by
        unfold F_X5_tells
        rw [e1]
        simp only [Option.bind_some]
        rw [e2]
        simp only [Option.bind_some]
        rw [e3]
        rfl
      rw [← this]
      simp only [k]
      rfl
    · have : tellsT 2 = 31 :: 13 :: (turnsT 2 ++ [12]) := rfl
      rw [this]
      rw [List.append_assoc] at a3
      exact a3
  · exact p0 (by simp [k]) rfl rfl rfl
  · exact p0 (by simp [k]) rfl rfl rfl
  · obtain ⟨I1, e1, a1, f1⟩ := x_began (b := 60) h (by omega)
    obtain ⟨I2, e2, a2, f2⟩ := x_tell0 (x := x) hc hK0 a1 (by rw [len1]; omega)
    rw [ap1] at a2
    rw [f1 c (by omega) (by omega)] at e2
    refine ⟨(turnsV 5 (I c 0) (I c 1) x ^^^ I c 1) * 2, I2, ?_, a2, fun _ => rfl, f1.tr f2⟩
    have : F_X9_tells T I c x = some ((turnsV 5 (I c 0) (I c 1) x ^^^ I c 1) * 2, I2) := by
      unfold F_X9_tells
      rw [e1]
      simp only [Option.bind_some]
      rw [e2]
      rfl
    rw [← this]
    simp only [k]
    rfl
end
