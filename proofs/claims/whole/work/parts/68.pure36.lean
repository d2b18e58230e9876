/-! PURE: every script -/
theorem law_in {L k i : Nat} (hL : L ≤ 3584) (h : 7 * k + 7 ≤ L) (hi : i ≤ 6) : inb (nI (7 * k) + nI i) L = true := by
  rw [nI_add]
  exact inbN (by omega) (by omega)
theorem law_cmp {L k : Nat} (hL : L ≤ 3584) (hk : k ≤ 600) : ((Int32.ofNat L) - 7 < nI (7 * k)) ↔ L < 7 * k + 7 := by
  rw [Int32.lt_iff_toInt_lt, Int32.toInt_sub, show (7 : Int32).toInt = 7 from rfl, show (Int32.ofNat L).toInt = (L : Int) from nI_toInt (by omega), nI_toInt (by omega), Int.bmod_eq_of_le (by omega) (by omega)]
  omega
set_option maxHeartbeats 4000000 in
set_option maxRecDepth 100000 in
theorem law_step {E : GE} {N f k : Nat} {T : TM} {I : IM} {J : JM} {P : PM} (hE : E.2.2.2.2.2.1 ≤ 3584) (hN : 1000 ≤ N) (hk : k ≤ 600) (hin : 7 * k + 7 ≤ E.2.2.2.2.2.1) (r : Rel k T I J P) (go : ∀ T I J P, Rel (k + 1) T I J P → G_law E N f (nI (7 * k) + 7) T I J P = some 1) : G_law E N (f + 1) (nI (7 * k)) T I J P = some 1 := by
  have hlt : ¬ ((Int32.ofNat E.2.2.2.2.2.1) - 7 < nI (7 * k)) := fun z => by
    have := (law_cmp hE hk).mp z
    omega
  have b0 : inb (nI (7 * k)) E.2.2.2.2.2.1 = true := inbN (by omega) (by omega)
  have b1 : inb (nI (7 * k) + 1) E.2.2.2.2.2.1 = true := law_in (i := 1) hE hin (by decide)
  have b2 : inb (nI (7 * k) + 2) E.2.2.2.2.2.1 = true := law_in (i := 2) hE hin (by decide)
  have b3 : inb (nI (7 * k) + 3) E.2.2.2.2.2.1 = true := law_in (i := 3) hE hin (by decide)
  have b4 : inb (nI (7 * k) + 4) E.2.2.2.2.2.1 = true := law_in (i := 4) hE hin (by decide)
  have b5 : inb (nI (7 * k) + 5) E.2.2.2.2.2.1 = true := law_in (i := 5) hE hin (by decide)
  have b6 : inb (nI (7 * k) + 6) E.2.2.2.2.2.1 = true := law_in (i := 6) hE hin (by decide)
  rw [G_law, if_neg hlt]
  simp only [b0, b1, b2, b3, b4, b5, b6, if_true]
  generalize (E.2.2.2.2.2.2 (nI (7 * k)).toNatClampNeg) &&& 63 = op
  generalize E.2.2.2.2.2.2 (nI (7 * k) + 1).toNatClampNeg = a1
  generalize E.2.2.2.2.2.2 (nI (7 * k) + 2).toNatClampNeg = a2
  generalize E.2.2.2.2.2.2 (nI (7 * k) + 3).toNatClampNeg = a3
  generalize E.2.2.2.2.2.2 (nI (7 * k) + 4).toNatClampNeg = a4
  generalize E.2.2.2.2.2.2 (nI (7 * k) + 5).toNatClampNeg = a5
  generalize E.2.2.2.2.2.2 (nI (7 * k) + 6).toNatClampNeg = a6
  by_cases c0 : op = 0
  · rw [if_pos c0]
    obtain ⟨v, I1, I2, e1, e2, r2⟩ := q_feed (N := N) (by omega) r _ a3
    rw [e1]
    simp only [Option.bind_some]
    rw [e2]
    simp only [Option.bind_some, if_true]
    exact go _ _ _ _ r2.mono
  rw [if_neg c0]
  by_cases c1 : op = 1
  · rw [if_pos c1]
    obtain ⟨v, T1, I1, J1, P1, I2, J2, e1, e2, r2⟩ := q_cards (N := N) (by omega) r
    rw [e1]
    simp only [Option.bind_some]
    rw [e2]
    simp only [Option.bind_some, if_true]
    exact go _ _ _ _ r2.mono
  rw [if_neg c1]
  by_cases c2 : op = 2
  · rw [if_pos c2]
    obtain ⟨v, T1, I1, J1, P1, I2, e1, e2, r2⟩ := q_card r a1 a2 a3 a4
    rw [e1]
    simp only [Option.bind_some]
    rw [e2]
    simp only [Option.bind_some, if_true]
    exact go _ _ _ _ r2.mono
  rw [if_neg c2]
  by_cases c3 : op = 3
  · rw [if_pos c3]
    obtain ⟨v, e1, e2⟩ := q_cardOf r a1 a2
    rw [e1]
    simp only [Option.bind_some]
    rw [e2]
    simp only [Option.bind_some, if_true]
    exact go _ _ _ _ r.mono
  rw [if_neg c3]
  by_cases c4 : op = 4
  · rw [if_pos c4]
    obtain ⟨v, I1, I2, e1, e2, r2⟩ := q_set r a1 a2
    rw [e1]
    simp only [Option.bind_some]
    rw [e2]
    simp only [Option.bind_some, if_true]
    exact go _ _ _ _ r2.mono
  rw [if_neg c4]
  by_cases c5 : op = 5
  · rw [if_pos c5]
    obtain ⟨v, I1, I2, e1, e2, r2⟩ := q_hand (N := N) (by omega) r a1 a2
    rw [e1]
    simp only [Option.bind_some]
    rw [e2]
    simp only [Option.bind_some, if_true]
    exact go _ _ _ _ r2.mono
  rw [if_neg c5]
  by_cases c6 : op = 6
  · rw [if_pos c6]
    obtain ⟨v, e1, e2⟩ := q_sine r a1
    rw [e1]
    simp only [Option.bind_some]
    rw [e2]
    simp only [Option.bind_some, if_true]
    exact go _ _ _ _ r.mono
  rw [if_neg c6]
  by_cases c7 : op = 7
  · rw [if_pos c7]
    obtain ⟨v, I1, I2, P1, e1, e2, r2⟩ := q_letGo r a1 a2 a3 a4
    rw [e1]
    simp only [Option.bind_some]
    rw [e2]
    simp only [Option.bind_some, if_true]
    exact go _ _ _ _ r2.mono
  rw [if_neg c7]
  by_cases c8 : op = 8
  · rw [if_pos c8]
    obtain ⟨v, I1, I2, e1, e2, r2⟩ := q_tick (N := N) (by omega) hk r a1
    rw [e1]
    simp only [Option.bind_some]
    rw [e2]
    simp only [Option.bind_some, if_true]
    exact go _ _ _ _ r2
  rw [if_neg c8]
  by_cases c9 : op = 9
  · rw [if_pos c9]
    obtain ⟨v, e1, e2⟩ := q_air r a1
    rw [e1]
    simp only [Option.bind_some]
    rw [e2]
    simp only [Option.bind_some, if_true]
    exact go _ _ _ _ r.mono
  rw [if_neg c9]
  by_cases c10 : op = 10
  · rw [if_pos c10]
    obtain ⟨v, I1, I2, e1, e2, r2⟩ := q_gust r a1 a2
    rw [e1]
    simp only [Option.bind_some]
    rw [e2]
    simp only [Option.bind_some, if_true]
    exact go _ _ _ _ r2.mono
  rw [if_neg c10]
  by_cases c11 : op = 11
  · rw [if_pos c11]
    obtain ⟨v, I1, I2, P1, e1, e2, r2⟩ := q_fall (N := N) (by omega) r a1 a2 a3 a4 a5
    rw [e1]
    simp only [Option.bind_some]
    rw [e2]
    simp only [Option.bind_some, if_true]
    exact go _ _ _ _ r2.mono
  rw [if_neg c11]
  by_cases c12 : op = 12
  · rw [if_pos c12]
    obtain ⟨v, I1, I2, P1, e1, e2, r2⟩ := q_line (N := N) (by omega) r a1 a2 a3 a4 a5
    rw [e1]
    simp only [Option.bind_some]
    rw [e2]
    simp only [Option.bind_some, if_true]
    exact go _ _ _ _ r2.mono
  rw [if_neg c12]
  by_cases c13 : op = 13
  · rw [if_pos c13]
    obtain ⟨v, I1, I2, P1, e1, e2, r2⟩ := q_parted (N := N) (by omega) r a1 a2 a3 a4 a5
    rw [e1]
    simp only [Option.bind_some]
    rw [e2]
    simp only [Option.bind_some, if_true]
    exact go _ _ _ _ r2.mono
  rw [if_neg c13]
  by_cases c14 : op = 14
  · rw [if_pos c14]
    obtain ⟨v, I1, I2, P1, e1, e2, r2⟩ := q_odds (N := N) (by omega) r a1 a2 a3 a4 a5 a6
    rw [e1]
    simp only [Option.bind_some]
    rw [e2]
    simp only [Option.bind_some, if_true]
    exact go _ _ _ _ r2.mono
  rw [if_neg c14]
  by_cases c15 : op = 15
  · rw [if_pos c15]
    obtain ⟨v, I1, I2, P1, e1, e2, r2⟩ := q_aim (N := N) (by omega) r a1 a2 a3 a4
    rw [e1]
    simp only [Option.bind_some]
    rw [e2]
    simp only [Option.bind_some, if_true]
    exact go _ _ _ _ r2.mono
  rw [if_neg c15]
  by_cases c16 : op = 16
  · rw [if_pos c16]
    obtain ⟨v, I1, I2, P1, e1, e2, r2⟩ := q_longest (N := N) (by omega) r a1 a2 a3
    rw [e1]
    simp only [Option.bind_some]
    rw [e2]
    simp only [Option.bind_some, if_true]
    exact go _ _ _ _ r2.mono
  rw [if_neg c16]
  by_cases c17 : op = 17
  · rw [if_pos c17]
    obtain ⟨v, I1, I2, P1, e1, e2, r2⟩ := q_fit (N := N) (by omega) r a1 a2 a3 a4 a5 a6
    rw [e1]
    simp only [Option.bind_some]
    rw [e2]
    simp only [Option.bind_some, if_true]
    exact go _ _ _ _ r2.mono
  rw [if_neg c17]
  by_cases c18 : op = 18
  · rw [if_pos c18]
    obtain ⟨v, I1, I2, P1, e1, e2, r2⟩ := q_miss (N := N) (by omega) r a1 a2 a3 a4 a5
    rw [e1]
    simp only [Option.bind_some]
    rw [e2]
    simp only [Option.bind_some, if_true]
    exact go _ _ _ _ r2.mono
  rw [if_neg c18]
  by_cases c19 : op = 19
  · rw [if_pos c19]
    obtain ⟨v, I1, I2, P1, e1, e2, r2⟩ := q_toss (N := N) (by omega) r a1 a2 a3 a4
    rw [e1]
    simp only [Option.bind_some]
    rw [e2]
    simp only [Option.bind_some, if_true]
    exact go _ _ _ _ r2.mono
  rw [if_neg c19]
  by_cases c20 : op = 20
  · rw [if_pos c20]
    obtain ⟨v, I1, I2, e1, e2, r2⟩ := q_seed r a1
    rw [e1]
    simp only [Option.bind_some]
    rw [e2]
    simp only [Option.bind_some, if_true]
    exact go _ _ _ _ r2.mono
  rw [if_neg c20]
  by_cases c21 : op = 21
  · rw [if_pos c21]
    obtain ⟨v, I1, I2, P1, e1, e2, r2⟩ := q_prove (N := N) (by omega) hk r a1
    rw [e1]
    simp only [Option.bind_some]
    rw [e2]
    simp only [Option.bind_some, if_true]
    exact go _ _ _ _ r2.mono
  rw [if_neg c21]
  by_cases c22 : op = 22
  · rw [if_pos c22]
    obtain ⟨v, e1, e2⟩ := q_row r a1 a2
    rw [e1]
    simp only [Option.bind_some]
    rw [e2]
    simp only [Option.bind_some, if_true]
    exact go _ _ _ _ r.mono
  rw [if_neg c22]
  by_cases c23 : op = 23
  · rw [if_pos c23]
    obtain ⟨v, I1, I2, e1, e2, r2⟩ := q_alterRow r a1 a2 a3
    rw [e1]
    simp only [Option.bind_some]
    rw [e2]
    simp only [Option.bind_some, if_true]
    exact go _ _ _ _ r2.mono
  rw [if_neg c23]
  by_cases c24 : op = 24
  · rw [if_pos c24]
    obtain ⟨v, I1, I2, P1, e1, e2, r2⟩ := q_judge (N := N) (by omega) hk r
    rw [e1]
    simp only [Option.bind_some]
    rw [e2]
    simp only [Option.bind_some, if_true]
    exact go _ _ _ _ r2.mono
  rw [if_neg c24]
  by_cases c25 : op = 25
  · rw [if_pos c25]
    obtain ⟨v, I1, J1, I2, J2, e1, e2, r2⟩ := q_sheet (N := N) (by omega) r a1 a2 a3
    rw [e1]
    simp only [Option.bind_some]
    rw [e2]
    simp only [Option.bind_some, if_true]
    exact go _ _ _ _ r2.mono
  rw [if_neg c25]
  by_cases c26 : op = 26
  · rw [if_pos c26]
    obtain ⟨v, J1, J2, e1, e2, r2⟩ := q_put r a1 a2 a3
    rw [e1]
    simp only [Option.bind_some]
    rw [e2]
    simp only [Option.bind_some, if_true]
    exact go _ _ _ _ r2.mono
  rw [if_neg c26]
  by_cases c27 : op = 27
  · rw [if_pos c27]
    obtain ⟨v, e1, e2⟩ := q_item r a1 a2 a3
    rw [e1]
    simp only [Option.bind_some]
    rw [e2]
    simp only [Option.bind_some, if_true]
    exact go _ _ _ _ r.mono
  rw [if_neg c27]
  by_cases c28 : op = 28
  · rw [if_pos c28]
    obtain ⟨v, I1, I2, e1, e2, r2⟩ := q_shelf r a1 a2 a3
    rw [e1]
    simp only [Option.bind_some]
    rw [e2]
    simp only [Option.bind_some, if_true]
    exact go _ _ _ _ r2.mono
  rw [if_neg c28]
  by_cases c29 : op = 29
  · rw [if_pos c29]
    obtain ⟨v, e1, e2⟩ := q_taken r a1 a2
    rw [e1]
    simp only [Option.bind_some]
    rw [e2]
    simp only [Option.bind_some, if_true]
    exact go _ _ _ _ r.mono
  rw [if_neg c29]
  by_cases c30 : op = 30
  · rw [if_pos c30]
    obtain ⟨v, I1, I2, e1, e2, r2⟩ := q_act r a1 a2 a3
    rw [e1]
    simp only [Option.bind_some]
    rw [e2]
    simp only [Option.bind_some, if_true]
    exact go _ _ _ _ r2.mono
  rw [if_neg c30]
  by_cases c31 : op = 31
  · rw [if_pos c31]
    obtain ⟨v, e1, e2⟩ := q_trace r a1
    rw [e1]
    simp only [Option.bind_some]
    rw [e2]
    simp only [Option.bind_some, if_true]
    exact go _ _ _ _ r.mono
  rw [if_neg c31]
  by_cases c32 : op = 32
  · rw [if_pos c32]
    obtain ⟨v, e1, e2⟩ := q_many (N := N) (by omega) r a1
    rw [e1]
    simp only [Option.bind_some]
    rw [e2]
    simp only [Option.bind_some, if_true]
    exact go _ _ _ _ r.mono
  rw [if_neg c32]
  by_cases c33 : op = 33
  · rw [if_pos c33]
    obtain ⟨v, I1, I2, P1, e1, e2, r2⟩ := q_keep (N := N) (by omega) r
    rw [e1]
    simp only [Option.bind_some]
    rw [e2]
    simp only [Option.bind_some, if_true]
    exact go _ _ _ _ r2.mono
  rw [if_neg c33]
  by_cases c34 : op = 34
  · rw [if_pos c34]
    obtain ⟨v, I1, I2, P1, e1, e2, r2⟩ := q_again (N := N) (by omega) r
    rw [e1]
    simp only [Option.bind_some]
    rw [e2]
    simp only [Option.bind_some, if_true]
    exact go _ _ _ _ r2.mono
  rw [if_neg c34]
  exact go _ _ _ _ r.mono
theorem law_all {E : GE} {N : Nat} (hE : E.2.2.2.2.2.1 ≤ 3584) (hN : 1000 ≤ N) : ∀ (m k : Nat) (T : TM) (I : IM) (J : JM) (P : PM), E.2.2.2.2.2.1 < 7 * (k + m) + 7 → k + m ≤ 600 → Rel k T I J P → ∀ f, m < f → G_law E N f (nI (7 * k)) T I J P = some 1 := by
  intro m
  induction m with
  | zero =>
    intro k T I J P h hk r f hf
    obtain ⟨f, rfl⟩ : ∃ g, f = g + 1 := ⟨f - 1, by omega⟩
    rw [G_law, if_pos ((law_cmp hE (by omega)).mpr (by omega))]
  | succ m ih =>
    intro k T I J P h hk r f hf
    obtain ⟨f, rfl⟩ : ∃ g, f = g + 1 := ⟨f - 1, by omega⟩
    by_cases z : E.2.2.2.2.2.1 < 7 * k + 7
    · rw [G_law, if_pos ((law_cmp hE (by omega)).mpr z)]
    · refine law_step hE hN (by omega) (by omega) r (fun T I J P r2 => ?_)
      have : nI (7 * k) + 7 = nI (7 * (k + 1)) := by
        show nI (7 * k) + nI 7 = _
        rw [nI_add]
        congr 1
      rw [this]
      exact ih (k + 1) T I J P (by omega) (by omega) r2 f (by omega)
theorem PURE_ok : PURE := fun E hE => ⟨1000, 600, law_all hE (by omega) 512 0 _ _ _ _ (by omega) (by omega) s_Rel 600 (by omega)⟩
