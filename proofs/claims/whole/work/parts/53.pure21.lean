/-! acts: the reference -/
section
variable {s : Nat} {T : TM} {I I' I'' : IM} {J : JM} {P : PM} {kd nm ow : Int32}
theorem m_fall0 {t : List Int32} {x z : Int32} (h : MX I t z kd nm ow) (hl : t.length < 20) : ∃ I', F_X12_plainFalls I x = some (x + nm, I') ∧ MX I' (t ++ [10]) z kd nm ow ∧ FrM I I' := by
  obtain ⟨I1, e, a, f⟩ := m_ran (b := 10) h hl
  refine ⟨I1, ?_, a, f⟩
  unfold F_X12_plainFalls
  rw [e]
  simp only [Option.bind_some]
  rw [a.2.2.1]
theorem m_fallsIt {t : List Int32} {x z : Int32} (h : MX I t z kd nm ow) (hl : t.length < 18) : ∃ I', F_X12_fallsIt I x = some (fallsV kd nm x, I') ∧ MX I' (t ++ fallsT kd) z kd nm ow ∧ FrM I I' := by
  unfold F_X12_fallsIt fallsV fallsT
  rw [h.2.1]
  by_cases k2 : kd = 2
  · rw [if_pos k2, if_pos k2, if_pos k2]
    obtain ⟨I1, e1, a1, f1⟩ := m_ran (b := 30) h (by omega)
    obtain ⟨I2, e2, a2, f2⟩ := m_fall0 (x := x) a1 (by rw [len1]; omega)
    rw [ap1] at a2
    refine ⟨I2, ?_, a2, f1.tr f2⟩
    rw [e1]
    simp only [Option.bind_some]
    rw [e2]
    rfl
  · rw [if_neg k2, if_neg k2, if_neg k2]
    by_cases k4 : kd = 4
    · rw [if_pos k4, if_pos k4, if_pos k4]
      obtain ⟨I1, e1, a1, f1⟩ := m_ran (b := 51) h (by omega)
      obtain ⟨I2, e2, a2, f2⟩ := m_fall0 (x := x) a1 (by rw [len1]; omega)
      rw [ap1] at a2
      refine ⟨I2, ?_, a2, f1.tr f2⟩
      rw [e1]
      simp only [Option.bind_some]
      rw [e2]
      simp only [Option.bind_some]
      rw [a2.2.2.1]
    · rw [if_neg k4, if_neg k4, if_neg k4]
      obtain ⟨I2, e2, a2, f2⟩ := m_fall0 (x := x) h (by omega)
      refine ⟨I2, ?_, a2, f2⟩
      rw [e2]
      rfl
theorem m_turn0 {t : List Int32} {x z : Int32} (h : MX I t z kd nm ow) (hl : t.length < 17) : ∃ I', F_X12_plainTurns I x = some (fallsV kd nm x * 2, I') ∧ MX I' (t ++ 11 :: fallsT kd) z kd nm ow ∧ FrM I I' := by
  obtain ⟨I1, e1, a1, f1⟩ := m_ran (b := 11) h (by omega)
  obtain ⟨I2, e2, a2, f2⟩ := m_fallsIt (x := x) a1 (by rw [len1]; omega)
  rw [ap1] at a2
  refine ⟨I2, ?_, a2, f1.tr f2⟩
  unfold F_X12_plainTurns
  rw [e1]
  simp only [Option.bind_some]
  rw [e2]
  rfl
theorem m_turnsIt {t : List Int32} {x z : Int32} (h : MX I t z kd nm ow) (hl : t.length < 16) : ∃ I', F_X12_turnsIt I x = some (turnsV kd nm ow x, I') ∧ MX I' (t ++ turnsT kd) z kd nm ow ∧ FrM I I' := by
  have pa : ∀ b : Int32, ∃ I', ((F_X12_ran I b).bind (fun x2 => ((F_X12_plainTurns x2 x).bind (fun x3 => (some ((x3.1 - (x3.2 101 46)), x3.2)))))) = some (fallsV kd nm x * 2 - ow, I') ∧ MX I' (t ++ b :: 11 :: fallsT kd) z kd nm ow ∧ FrM I I' := by
    intro b
    obtain ⟨I1, e1, a1, f1⟩ := m_ran (b := b) h (by omega)
    obtain ⟨I2, e2, a2, f2⟩ := m_turn0 (x := x) a1 (by rw [len1]; omega)
    rw [ap1] at a2
    refine ⟨I2, ?_, a2, f1.tr f2⟩
    rw [e1]
    simp only [Option.bind_some]
    rw [e2]
    simp only [Option.bind_some]
    rw [a2.2.2.2]
  have pb : ∀ b : Int32, ∃ I', ((F_X12_ran I b).bind (fun x2 => ((F_X12_plainTurns x2 x).bind (fun x3 => (some ((0 - x3.1), x3.2)))))) = some (0 - fallsV kd nm x * 2, I') ∧ MX I' (t ++ b :: 11 :: fallsT kd) z kd nm ow ∧ FrM I I' := by
    intro b
    obtain ⟨I1, e1, a1, f1⟩ := m_ran (b := b) h (by omega)
    obtain ⟨I2, e2, a2, f2⟩ := m_turn0 (x := x) a1 (by rw [len1]; omega)
    rw [ap1] at a2
    refine ⟨I2, ?_, a2, f1.tr f2⟩
    rw [e1]
    simp only [Option.bind_some]
    rw [e2]
    rfl
  unfold F_X12_turnsIt turnsV turnsT
  rw [h.2.1]
  by_cases k1 : kd = 1
  · rw [if_pos k1, if_pos k1, if_pos k1]; exact pa 20
  · rw [if_neg k1, if_neg k1, if_neg k1]
    by_cases k4 : kd = 4
    · rw [if_pos k4, if_pos k4, if_pos k4]; exact pa 20
    · rw [if_neg k4, if_neg k4, if_neg k4]
      by_cases k3 : kd = 3
      · rw [if_pos k3, if_pos k3, if_pos k3]; exact pb 40
      · rw [if_neg k3, if_neg k3, if_neg k3]
        by_cases k5 : kd = 5
        · rw [if_pos k5, if_pos k5, if_pos k5]; exact pb 40
        · rw [if_neg k5, if_neg k5, if_neg k5]
          obtain ⟨I2, e2, a2, f2⟩ := m_turn0 (x := x) h (by omega)
          refine ⟨I2, ?_, a2, f2⟩
          rw [e2]
          rfl
theorem sub0 {a b : Int32} : a = b ↔ a - b = 0 := by
  rw [Int32.sub_eq_iff_eq_add, Int32.zero_add]
theorem m_share0 {t : List Int32} {x : Int32} (h : MX I t 0 kd nm ow) (hl : t.length < 20) : ∃ v I', F_X12_plainShares I x = some (v, I') ∧ MX I' (t ++ [12]) (shB nm ow) kd nm ow ∧ (shB nm ow = 0 → v = x / (ow - nm)) ∧ FrM I I' := by
  obtain ⟨I1, e1, a1, f1⟩ := m_ran (b := 12) h hl
  unfold F_X12_plainShares shB
  rw [e1]
  simp only [Option.bind_some, letb]
  rw [a1.2.2.1, a1.2.2.2]
  by_cases d : ow - nm = 0
  · rw [if_pos d, if_pos (sub0.mpr d)]
    refine ⟨0, up2 I1 101 49 1, rfl, ?_, fun z => absurd z (by decide), fun x h1 h2 => by rw [up2_oth _ _ _ h1]; exact f1.1 x h1 h2, fun i h1 h2 => by rw [up2_n _ _ (by omega)]; exact f1.2 i h1 h2⟩
    obtain ⟨⟨b1, b2, b3, b4⟩, b5, b6, b7⟩ := a1
    exact ⟨⟨b1, b2, rfl, b4⟩, b5, b6, b7⟩
  · rw [if_neg d, if_neg (fun z => d (sub0.mp z)), if_pos d]
    exact ⟨_, I1, rfl, a1, fun _ => rfl, f1⟩
theorem m_sharesIt {t : List Int32} {x : Int32} (h : MX I t 0 kd nm ow) (hl : t.length < 14) : ∃ v I', F_X12_sharesIt I x = some (v, I') ∧ MX I' (t ++ sharesT kd nm ow) (shB nm ow) kd nm ow ∧ (shB nm ow = 0 → v = sharesV kd nm ow x) ∧ FrM I I' := by
  unfold F_X12_sharesIt sharesT sharesV
  rw [h.2.1]
  by_cases k4 : kd = 4
  · rw [if_pos k4, if_pos k4, if_pos k4]
    obtain ⟨I1, e1, a1, f1⟩ := m_ran (b := 50) h (by omega)
    obtain ⟨v, I2, e2, a2, w, f2⟩ := m_share0 (x := x + 2) a1 (by rw [len1]; omega)
    rw [ap1] at a2
    refine ⟨v ^^^ 1, I2, ?_, a2, fun z => by rw [w z], f1.tr f2⟩
    rw [e1]
    simp only [Option.bind_some]
    rw [e2]
    rfl
  · rw [if_neg k4, if_neg k4, if_neg k4]
    by_cases k5 : kd = 5
    · rw [if_pos k5, if_pos k5, if_pos k5]
      obtain ⟨I1, e1, a1, f1⟩ := m_ran (b := 61) h (by omega)
      obtain ⟨v, I2, e2, a2, w, f2⟩ := m_share0 (x := x) a1 (by rw [len1]; omega)
      rw [ap1] at a2
      rw [e1]
      simp only [Option.bind_some]
      rw [e2]
      simp only [Option.bind_some]
      rw [a2.1.2.2.1]
      by_cases d : ow - nm = 0
      · have hb : shB nm ow = 1 := if_pos d
        rw [hb] at a2 ⊢
        rw [if_pos d, if_neg n10]
        exact ⟨_, I2, rfl, a2, fun z => absurd z (by decide), f1.tr f2⟩
      · have hb : shB nm ow = 0 := if_neg d
        rw [hb] at a2 w ⊢
        rw [if_neg d, if_pos rfl]
        obtain ⟨I3, e3, a3, f3⟩ := m_fallsIt (x := I2 101 46) a2 (by simp only [List.length_append, List.length_cons, List.length_nil]; omega)
        refine ⟨v + (ow + nm), I3, ?_, ?_, fun z => by rw [w rfl], (f1.tr f2).tr f3⟩
        · rw [e3, a2.2.2.2]
          subst k5
          rfl
        · rw [List.append_assoc] at a3
          subst k5
          exact a3
    · rw [if_neg k5, if_neg k5, if_neg k5]
      obtain ⟨v, I2, e2, a2, w, f2⟩ := m_share0 (x := x) h (by omega)
      refine ⟨v, I2, ?_, a2, w, f2⟩
      rw [e2]
      rfl
theorem m_tell0 {t : List Int32} {x z : Int32} (h : MX I t z kd nm ow) (hl : t.length < 14) : ∃ I', F_X12_plainTells I x = some (turnsV kd nm ow x ^^^ ow, I') ∧ MX I' (t ++ 13 :: turnsT kd) z kd nm ow ∧ FrM I I' := by
  obtain ⟨I1, e1, a1, f1⟩ := m_ran (b := 13) h (by omega)
  obtain ⟨I2, e2, a2, f2⟩ := m_turnsIt (x := x) a1 (by rw [len1]; omega)
  rw [ap1] at a2
  refine ⟨I2, ?_, a2, f1.tr f2⟩
  unfold F_X12_plainTells
  rw [e1]
  simp only [Option.bind_some]
  rw [e2]
  simp only [Option.bind_some]
  rw [a2.2.2.2]
theorem m_tellsIt {t : List Int32} {x : Int32} (h : MX I t 0 kd nm ow) (hl : t.length < 8) : ∃ v I', F_X12_tellsIt I x = some (v, I') ∧ MX I' (t ++ tellsT kd) (tellsB kd nm ow) kd nm ow ∧ (tellsB kd nm ow = 0 → v = tellsV kd nm ow x) ∧ FrM I I' := by
  unfold F_X12_tellsIt tellsT tellsB tellsV
  rw [h.2.1]
  by_cases k2 : kd = 2
  · simp only [if_pos k2]
    obtain ⟨I1, e1, a1, f1⟩ := m_ran (b := 31) h (by omega)
    obtain ⟨I2, e2, a2, f2⟩ := m_tell0 (x := x) a1 (by rw [len1]; omega)
    rw [ap1] at a2
    have hl2 : (t ++ 31 :: 13 :: turnsT kd).length < 14 := by
      have := turnsT_len kd
      simp only [List.length_append, List.length_cons]
      omega
    obtain ⟨v, I3, e3, a3, w, f3⟩ := m_sharesIt (x := I2 101 45) a2 hl2
    have hsT : sharesT kd nm ow = [12] := by subst k2; rfl
    have hsV : sharesV kd nm ow (I2 101 45) = nm / (ow - nm) := by rw [a2.2.2.1]; subst k2; rfl
    rw [hsT, List.append_assoc] at a3
    rw [hsV] at w
    refine ⟨(turnsV kd nm ow x ^^^ ow) + v, I3, ?_, a3, fun z => by rw [w z], (f1.tr f2).tr f3⟩
    rw [e1]
    simp only [Option.bind_some]
    rw [e2]
    simp only [Option.bind_some]
    rw [e3]
    rfl
  · simp only [if_neg k2]
    by_cases k5 : kd = 5
    · simp only [if_pos k5]
      obtain ⟨I1, e1, a1, f1⟩ := m_ran (b := 60) h (by omega)
      obtain ⟨I2, e2, a2, f2⟩ := m_tell0 (x := x) a1 (by rw [len1]; omega)
      rw [ap1] at a2
      refine ⟨_, I2, ?_, a2, fun _ => rfl, f1.tr f2⟩
      rw [e1]
      simp only [Option.bind_some]
      rw [e2]
      rfl
    · simp only [if_neg k5]
      obtain ⟨I2, e2, a2, f2⟩ := m_tell0 (x := x) h (by omega)
      refine ⟨_, I2, ?_, a2, fun _ => rfl, f2⟩
      rw [e2]
      rfl
/-- behind an act -/
theorem act_rel (r : Rel s T I J P) {t : List Int32} {b : Int32} {I1 I2 : IM} (h1 : TX I1 t b) (f1 : FX I I1) (hm : I2 101 48 = nI t.length) (he : EL (I2 121) t) (f2 : ∀ x, x ≠ 101 → x ≠ 121 → I2 x = I1 x) (f3 : ∀ i, i ≠ 44 → i ≠ 45 → i ≠ 46 → i ≠ 48 → i ≠ 49 → I2 101 i = I1 101 i) : Rel s T I2 J P := by
  have f : Fr [82, 83, 121] [] [] [44, 45, 46, 48, 49] [] I I2 J J P P := ⟨fun x hx h1 _ => by
    simp only [List.mem_cons, List.not_mem_nil, or_false, not_or] at hx
    rw [f2 x h1 hx.2.2, f1 x hx.1 hx.2.1], fun i hi => by
    simp only [List.mem_cons, List.not_mem_nil, or_false, not_or] at hi
    rw [f3 i hi.1 hi.2.1 hi.2.2.1 hi.2.2.2.1 hi.2.2.2.2, f1 101 (by decide) (by decide)], fun i _ => by rw [f2 64 (by decide) (by decide), f1 64 (by decide) (by decide)], fun _ _ => rfl, fun _ _ => rfl⟩
  refine ⟨r.t60, fr_sin r.sin f (by decide), fr_shp r.shp f (by decide), fr_now r.now f (by decide), fr_kept r.kept f (by decide), fr_tape r.tape f (by decide), fr_rows r.rows f (by decide), fr_sh r.sh f (by decide), fr_shf r.shf f (by decide), ?_⟩
  obtain ⟨a1, a2, a3, a4⟩ := h1
  refine ⟨t.length, by omega, ?_, hm, fun j hj => ?_⟩
  · rw [f2 82 (by decide) (by decide)]; exact a2
  · rw [f2 83 (by decide) (by decide), a4 j hj, he j hj]
theorem x_clear : ∃ I1, F_X7_clear I = some I1 ∧ TX I1 [] 0 ∧ FX I I1 := by
  refine ⟨up2 (up2 I 82 1 0) 82 2 0, rfl, ⟨by decide, rfl, rfl, fun j hj => absurd hj (by simp)⟩, fun x h1 _ => ?_⟩
  rw [up2_oth _ _ _ h1, up2_oth _ _ _ h1]
theorem act_none (r : Rel s T I J P) {I1 : IM} (h1 : TX I1 [] 0) (f1 : FX I I1) : Rel s T (up2 I1 101 48 0) J P :=
  act_rel r h1 f1 (up2_s _ _ _ _) (fun j hj => absurd hj (by simp)) (fun x h _ => up2_oth _ _ _ h) (fun i _ _ _ h _ => up2_n _ _ (fun z => h z.2))
def act5 (I : IM) (kd nm ow : Int32) : IM := up2 (up2 (up2 (up2 (up2 I 101 48 0) 101 44 kd) 101 45 nm) 101 46 ow) 101 49 0
theorem act5_fr : (∀ x, x ≠ 101 → act5 I kd nm ow x = I x) ∧ ∀ i, i ≠ 44 → i ≠ 45 → i ≠ 46 → i ≠ 48 → i ≠ 49 → act5 I kd nm ow 101 i = I 101 i := by
  unfold act5
  refine ⟨fun x hx => ?_, fun i h1 h2 h3 h4 h5 => ?_⟩
  · rw [up2_oth _ _ _ hx, up2_oth _ _ _ hx, up2_oth _ _ _ hx, up2_oth _ _ _ hx, up2_oth _ _ _ hx]
  · rw [up2_n _ _ (by omega), up2_n _ _ (by omega), up2_n _ _ (by omega), up2_n _ _ (by omega), up2_n _ _ (by omega)]
theorem act5_mx : MX (act5 I kd nm ow) [] 0 kd nm ow := ⟨⟨by decide, rfl, rfl, fun j hj => absurd hj (by simp)⟩, rfl, rfl, rfl⟩
/-- both sides end alike -/
theorem act_fin (r : Rel s T I J P) {t : List Int32} {b V p1 p2 p3 : Int32} {I1 : IM} {X : Option (Int32 × IM)} {R : IM → Option (Int32 × IM)} (f1 : FX I I1) (hX : ∃ v I2, X = some (v, I2) ∧ TX I2 t b ∧ (b = 0 → v = V) ∧ FX I1 I2) (hR : ∀ I5, MX I5 [] 0 kd nm ow → ∃ w I6, R I5 = some (w, I6) ∧ MX I6 t b kd nm ow ∧ (b = 0 → w = V) ∧ FrM I5 I6) (ex : F_X11_act T I P p1 p2 p3 = X.bind (fun x8 => (if (x8.2 82 2) = 0 then (some (x8.1, x8.2)) else (some ((-15), x8.2))))) (em : ∀ Im : IM, FX I Im → F_X12_act Im p1 p2 p3 = (R (act5 Im kd nm ow)).bind (fun x8 => (if (x8.2 101 49) = 0 then (some (x8.1, x8.2)) else (some ((-15), x8.2))))) : ∃ v I1 I2, F_X11_act T I P p1 p2 p3 = some (v, I1) ∧ F_X12_act I1 p1 p2 p3 = some (v, I2) ∧ Rel s T I2 J P := by
  obtain ⟨v, I2, eX, a2, hv, f2⟩ := hX
  obtain ⟨w, I6, eR, a6, hw, f6⟩ := hR (act5 I2 kd nm ow) act5_mx
  have em2 := em I2 (f1.tr f2)
  rw [eX] at ex
  rw [eR] at em2
  simp only [Option.bind_some] at ex em2
  rw [a2.2.2.1] at ex
  rw [a6.1.2.2.1] at em2
  have rr : Rel s T I6 J P := act_rel r a2 (f1.tr f2) a6.1.2.1 a6.1.2.2.2 (fun x h1 h2 => by rw [f6.1 x h1 h2, act5_fr.1 x h1]) (fun i h1 h2 h3 h4 h5 => by rw [f6.2 i h4 h5, act5_fr.2 i h1 h2 h3 h4 h5])
  by_cases hb : b = 0
  · rw [if_pos hb] at ex em2
    rw [hv hb] at ex
    rw [hw hb] at em2
    exact ⟨V, I2, I6, ex, em2, rr⟩
  · rw [if_neg hb] at ex em2
    exact ⟨-15, I2, I6, ex, em2, rr⟩
theorem q_act (r : Rel s T I J P) (p1 p2 p3 : Int32) : ∃ v I1 I2, F_X11_act T I P p1 p2 p3 = some (v, I1) ∧ F_X12_act I1 p1 p2 p3 = some (v, I2) ∧ Rel s T I2 J P := by
  obtain ⟨I1, e1, t1, f1⟩ := x_clear (I := I)
  have ex : F_X11_act T I P p1 p2 p3 = ((F_X11_thingOn I1 P p1).bind (fun x2 => (osel x2 (some (0, I1)) (fun c3 => (if p2 < 0 then (some (0, I1)) else (if p2 ≤ 3 then (if p2 = 0 then (if isF T c3 = true then ((F_V_falls T I1 c3 p3).bind (fun x8 => (if (x8.2 82 2) = 0 then (some (x8.1, x8.2)) else (some ((-15), x8.2))))) else none) else (if p2 = 1 then (if isF T c3 = true then ((F_V_turns T I1 c3 p3).bind (fun x12 => (if (x12.2 82 2) = 0 then (some (x12.1, x12.2)) else (some ((-15), x12.2))))) else none) else (if p2 = 2 then (if isF T c3 = true then ((F_V_shares T I1 c3 p3).bind (fun x16 => (if (x16.2 82 2) = 0 then (some (x16.1, x16.2)) else (some ((-15), x16.2))))) else none) else (if isF T c3 = true then ((F_V_tells T I1 c3 p3).bind (fun x19 => (if (x19.2 82 2) = 0 then (some (x19.1, x19.2)) else (some ((-15), x19.2))))) else none)))) else (some (0, I1)))))))) := by
    unfold F_X11_act
    rw [e1]
    rfl
  rcases shelf_01 p1 with g | ⟨g, q, hq, rfl⟩
  · refine ⟨0, I1, up2 I1 101 48 0, ?_, ?_, act_none r t1 f1⟩
    · rw [ex]
      unfold F_X11_thingOn
      rw [shelf_eq, g]
      rfl
    · unfold F_X12_act
      simp only [letb]
      rw [g, if_pos rfl]
      have : F_X12_in (-1) 0 5 = 0 := by decide
      rw [this, if_pos rfl]
      split <;> rfl
  · obtain ⟨n, hC, hz, hL, hH, hA⟩ := r.now
    have h6 := hC.1
    have eX : F_X11_thingOn I1 P (nI q) = F_X11_thingOn I P (nI q) := by
      unfold F_X11_thingOn F_X10_cardAt
      rw [f1 85 (by decide) (by decide), f1 86 (by decide) (by decide), f1 65 (by decide) (by decide)]
    have m0 : ∀ x, x ≠ 101 → x ≠ 82 → x ≠ 83 → (up2 I1 101 48 0) x = I x := fun x a b c => by rw [up2_oth _ _ _ a, f1 x b c]
    have m1 : (up2 I1 101 48 0) 101 0 = I 101 0 := by rw [up2_n _ _ (by omega), f1 101 (by decide) (by decide)]
    have eM : F_X12_kindOn (up2 I1 101 48 0) (nI q) = F_X12_kindOn I (nI q) := by
      unfold F_X12_kindOn F_X12_isCard F_X12_its
      rw [m0 118 (by decide) (by decide) (by decide), m0 119 (by decide) (by decide) (by decide), m0 102 (by decide) (by decide) (by decide), m1]
    have none_case : ∀ k : Int32, F_X11_thingOn I P (nI q) = some none → F_X12_kindOn I (nI q) = some k → F_X12_in k 0 5 = 0 → ∃ v I1 I2, F_X11_act T I P (nI q) p2 p3 = some (v, I1) ∧ F_X12_act I1 (nI q) p2 p3 = some (v, I2) ∧ Rel s T I2 J P := by
      intro k a1 a2 a3
      refine ⟨0, I1, up2 I1 101 48 0, ?_, ?_, act_none r t1 f1⟩
      · rw [ex, eX, a1]; rfl
      · unfold F_X12_act
        simp only [letb]
        rw [g, if_neg n10, eM, a2]
        simp only [Option.bind_some]
        rw [a3, if_pos rfl]
        split <;> rfl
    rcases on_cases r hC hq with ⟨b1, b2, b3, b4, b5⟩ | ⟨b1, ⟨b2, b3⟩ | ⟨j, c, hj, hp, hr, b2, b3⟩⟩
    · exact none_case 9 b2 b3 (by decide)
    · exact none_case (-1) b2 b3 (by decide)
    · obtain ⟨c1, c2, c3, c4, c5, c6⟩ := hr
      obtain ⟨-, -, k3⟩ := kd_bd c3
      rcases in0 p2 0 3 (a := 0) (b := 3) rfl rfl with ⟨g2, h⟩ | ⟨g2, h⟩
      · refine ⟨0, I1, up2 I1 101 48 0, ?_, ?_, act_none r t1 f1⟩
        · rw [ex, eX, b2]
          simp only [Option.bind_some]
          rw [osel_s rfl]
          simp only [Int32.lt_iff_toInt_lt, Int32.le_iff_toInt_le, Int32.reduceToInt]
          by_cases a1 : p2.toInt < 0
          · rw [if_pos a1]
          · rw [if_neg a1, if_neg (by omega)]
        · unfold F_X12_act
          simp only [letb]
          rw [g, if_neg n10, eM, b3]
          simp only [Option.bind_some]
          rw [g2, if_pos rfl]
      · have em : ∀ Im : IM, FX I Im → F_X12_act Im (nI q) p2 p3 = (if p2 = 0 then ((F_X12_fallsIt (act5 Im (I 102 (4 * j)) (nI j) (I 102 (4 * j + 1))) p3).bind (fun x53 => (if (x53.2 101 49) = 0 then (some (x53.1, x53.2)) else (some ((-15), x53.2))))) else (if p2 = 1 then ((F_X12_turnsIt (act5 Im (I 102 (4 * j)) (nI j) (I 102 (4 * j + 1))) p3).bind (fun x51 => (if (x51.2 101 49) = 0 then (some (x51.1, x51.2)) else (some ((-15), x51.2))))) else (if p2 = 2 then ((F_X12_sharesIt (act5 Im (I 102 (4 * j)) (nI j) (I 102 (4 * j + 1))) p3).bind (fun x49 => (if (x49.2 101 49) = 0 then (some (x49.1, x49.2)) else (some ((-15), x49.2))))) else ((F_X12_tellsIt (act5 Im (I 102 (4 * j)) (nI j) (I 102 (4 * j + 1))) p3).bind (fun x47 => (if (x47.2 101 49) = 0 then (some (x47.1, x47.2)) else (some ((-15), x47.2)))))))) := by
          intro Im hm
          have hk : F_X12_kindOn (up2 Im 101 48 0) (nI q) = F_X12_kindOn I (nI q) := by
            unfold F_X12_kindOn F_X12_isCard F_X12_its
            rw [up2_oth _ _ _ (show 118 ≠ 101 by decide), up2_oth _ _ _ (show 119 ≠ 101 by decide), up2_oth _ _ _ (show 102 ≠ 101 by decide), up2_n _ _ (show ¬ (101 = 101 ∧ 0 = 48) by decide), hm 118 (by decide) (by decide), hm 119 (by decide) (by decide), hm 102 (by decide) (by decide), hm 101 (by decide) (by decide)]
          have e119 : Im 119 q = nI j := by rw [hm 119 (by decide) (by decide)]; exact hp
          have eits : F_X12_its (up2 (up2 (up2 Im 101 48 0) 101 44 (I 102 (4 * j))) 101 45 (nI j)) (nI j) 1 = some (I 102 (4 * j + 1)) := by
            rw [m_its1 (by omega), up2_oth _ _ _ (by decide), up2_oth _ _ _ (by decide), up2_oth _ _ _ (by decide), hm 102 (by decide) (by decide)]
          unfold F_X12_act
          simp only [letb]
          rw [g, if_neg n10, hk, b3]
          simp only [Option.bind_some]
          rw [g2, if_neg n10, k3, if_neg n10, if_pos (inb4 hq), clamp4 hq, up2_oth _ _ _ (by decide), up2_oth _ _ _ (by decide), e119, up2_s, eits]
          rfl
        have d0 : I1 c 0 = nI j := by rw [f1 c (by omega) (by omega)]; exact c4
        have d1 : I1 c 1 = I 102 (4 * j + 1) := by rw [f1 c (by omega) (by omega)]; exact c5
        have p_lo : ¬ p2 < 0 := by rw [Int32.lt_iff_toInt_lt]; simp only [Int32.reduceToInt]; omega
        have p_hi : p2 ≤ 3 := by rw [Int32.le_iff_toInt_le]; simp only [Int32.reduceToInt]; omega
        rw [eX, b2] at ex
        simp only [Option.bind_some] at ex
        rw [osel_s rfl, if_neg p_lo, if_pos p_hi] at ex
        simp only [c2, if_true] at ex
        have l0 : ([] : List Int32).length < 8 := by decide
        have hp2 : p2.toInt = (0 : Nat) ∨ p2.toInt = (1 : Nat) ∨ p2.toInt = (2 : Nat) ∨ p2.toInt = (3 : Nat) := by omega
        rcases hp2 with h | h | h | h <;> have hpp := nat_eq h <;> clear h <;> subst hpp
        · rw [if_pos (show nI 0 = 0 from rfl)] at ex
          refine act_fin (t := fallsT (I 102 (4 * j))) (b := 0) (V := fallsV (I 102 (4 * j)) (nI j) p3) (kd := I 102 (4 * j)) (nm := nI j) (ow := I 102 (4 * j + 1)) (R := fun I5 => F_X12_fallsIt I5 p3) r f1 ?_ ?_ ex (fun Im hIm => by rw [em Im hIm, if_pos (show nI 0 = 0 from rfl)])
          · obtain ⟨I2, e2, a2, f2⟩ := x_falls (x := p3) c1 c3 t1 (by omega)
            rw [d0] at e2
            exact ⟨_, I2, e2, a2, fun _ => rfl, f2⟩
          · intro I5 h5
            obtain ⟨I6, e6, a6, f6⟩ := m_fallsIt (x := p3) h5 (by omega)
            exact ⟨_, I6, e6, a6, fun _ => rfl, f6⟩
        · rw [if_neg (show ¬ nI 1 = 0 by decide), if_pos (show nI 1 = 1 from rfl)] at ex
          refine act_fin (t := turnsT (I 102 (4 * j))) (b := 0) (V := turnsV (I 102 (4 * j)) (nI j) (I 102 (4 * j + 1)) p3) (kd := I 102 (4 * j)) (nm := nI j) (ow := I 102 (4 * j + 1)) (R := fun I5 => F_X12_turnsIt I5 p3) r f1 ?_ ?_ ex (fun Im hIm => by rw [em Im hIm, if_neg (show ¬ nI 1 = 0 by decide), if_pos (show nI 1 = 1 from rfl)])
          · obtain ⟨I2, e2, a2, f2⟩ := x_turns (x := p3) c1 c3 t1 (by omega)
            rw [d0, d1] at e2
            exact ⟨_, I2, e2, a2, fun _ => rfl, f2⟩
          · intro I5 h5
            obtain ⟨I6, e6, a6, f6⟩ := m_turnsIt (x := p3) h5 (by omega)
            exact ⟨_, I6, e6, a6, fun _ => rfl, f6⟩
        · rw [if_neg (show ¬ nI 2 = 0 by decide), if_neg (show ¬ nI 2 = 1 by decide), if_pos (show nI 2 = 2 from rfl)] at ex
          refine act_fin (t := sharesT (I 102 (4 * j)) (nI j) (I 102 (4 * j + 1))) (b := shB (nI j) (I 102 (4 * j + 1))) (V := sharesV (I 102 (4 * j)) (nI j) (I 102 (4 * j + 1)) p3) (kd := I 102 (4 * j)) (nm := nI j) (ow := I 102 (4 * j + 1)) (R := fun I5 => F_X12_sharesIt I5 p3) r f1 ?_ ?_ ex (fun Im hIm => by rw [em Im hIm, if_neg (show ¬ nI 2 = 0 by decide), if_neg (show ¬ nI 2 = 1 by decide), if_pos (show nI 2 = 2 from rfl)])
          · obtain ⟨v, I2, e2, a2, w, f2⟩ := x_shares (x := p3) c1 c3 t1 (by omega)
            rw [d0, d1] at a2 w
            exact ⟨v, I2, e2, a2, w, f2⟩
          · intro I5 h5
            obtain ⟨v, I6, e6, a6, w, f6⟩ := m_sharesIt (x := p3) h5 (by omega)
            exact ⟨v, I6, e6, a6, w, f6⟩
        · rw [if_neg (show ¬ nI 3 = 0 by decide), if_neg (show ¬ nI 3 = 1 by decide), if_neg (show ¬ nI 3 = 2 by decide)] at ex
          refine act_fin (t := tellsT (I 102 (4 * j))) (b := tellsB (I 102 (4 * j)) (nI j) (I 102 (4 * j + 1))) (V := tellsV (I 102 (4 * j)) (nI j) (I 102 (4 * j + 1)) p3) (kd := I 102 (4 * j)) (nm := nI j) (ow := I 102 (4 * j + 1)) (R := fun I5 => F_X12_tellsIt I5 p3) r f1 ?_ ?_ ex (fun Im hIm => by rw [em Im hIm, if_neg (show ¬ nI 3 = 0 by decide), if_neg (show ¬ nI 3 = 1 by decide), if_neg (show ¬ nI 3 = 2 by decide)])
          · obtain ⟨v, I2, e2, a2, w, f2⟩ := x_tells (x := p3) c1 c3 t1 (by omega)
            rw [d0, d1] at a2 w
            exact ⟨v, I2, e2, a2, w, f2⟩
          · intro I5 h5
            obtain ⟨v, I6, e6, a6, w, f6⟩ := m_tellsIt (x := p3) h5 (by omega)
            exact ⟨v, I6, e6, a6, w, f6⟩
end
