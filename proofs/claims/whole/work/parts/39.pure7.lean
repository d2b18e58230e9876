/-! PURE WORK 7: the small calls -/
theorem in0 (p lo hi : Int32) {a b : Int} (ha : lo.toInt = a) (hb : hi.toInt = b) : (F_X12_in p lo hi = 0 ∧ (p.toInt < a ∨ b < p.toInt)) ∨ (F_X12_in p lo hi = 1 ∧ a ≤ p.toInt ∧ p.toInt ≤ b) := by
  subst ha hb
  unfold F_X12_in
  simp only [Int32.lt_iff_toInt_lt]
  by_cases h1 : p.toInt < lo.toInt
  · left; exact ⟨by rw [if_pos h1], Or.inl h1⟩
  · by_cases h2 : hi.toInt < p.toInt
    · left; exact ⟨by rw [if_neg h1, if_pos h2], Or.inr h2⟩
    · right; exact ⟨by rw [if_neg h1, if_neg h2], by omega, by omega⟩
theorem in1 {p lo hi : Int32} {a b : Int} (ha : lo.toInt = a) (hb : hi.toInt = b) (h : a ≤ p.toInt ∧ p.toInt ≤ b) : F_X12_in p lo hi = 1 := by
  rcases in0 p lo hi ha hb with ⟨-, q⟩ | ⟨q, -⟩
  · omega
  · exact q
theorem in2 {p lo hi : Int32} {a b : Int} (ha : lo.toInt = a) (hb : hi.toInt = b) (h : ¬ (a ≤ p.toInt ∧ p.toInt ≤ b)) : F_X12_in p lo hi = 0 := by
  rcases in0 p lo hi ha hb with ⟨q, -⟩ | ⟨-, q⟩
  · exact q
  · omega
theorem clampT (p : Int32) : p.toNatClampNeg = p.toInt.toNat := rfl
theorem inbT {p : Int32} {n : Nat} (h0 : 0 ≤ p.toInt) (h1 : p.toInt < n) : inb p n = true := by
  unfold inb
  simp [h0, h1]
theorem inbF {p : Int32} {n : Nat} : inb p n = true ↔ 0 ≤ p.toInt ∧ p.toInt < n := by
  unfold inb
  simp
theorem kind_V {T : TM} {c : Nat} {kd : Int32} (h : kmapR (T.2.1 c) kd) : F_V_kind T c = kd := by
  unfold F_V_kind
  rcases h with ⟨h, rfl⟩ | ⟨h, rfl⟩ | ⟨h, rfl⟩ | ⟨h, rfl⟩ | ⟨h, rfl⟩ | ⟨h, rfl⟩ <;> rw [h] <;> rfl
theorem nat_eq {p : Int32} {k : Nat} (h : p.toInt = k) : p = nI k := by
  have := of_nat (p := p) (by omega)
  rw [this, h]
  simp
variable {s : Nat} {T : TM} {I : IM} {J : JM} {P : PM}
theorem q_cardOf (r : Rel s T I J P) (p1 p2 : Int32) : ∃ v, F_X11_cardOf T I P p1 p2 = some v ∧ F_X12_cardOf I p1 p2 = some v := by
  obtain ⟨n, hC, -⟩ := r.now
  have h6 := hC.1
  unfold F_X11_cardOf F_X12_cardOf
  rcases card_cases hC p1 with ⟨e1, e2⟩ | ⟨e1, j, c, hj, hp, hc, hr, e2⟩
  · rw [e1, e2]; exact ⟨-1, rfl, rfl⟩
  · obtain ⟨r1, r2, r3, r4, r5, r6, r7, -⟩ := hr
    rw [e1, e2]
    simp only [Option.bind_some, osel, r2, if_true]
    subst hp
    rw [m_its3 (by omega), kind_V r3, r5, r6, r7]
    rcases in0 p2 0 3 (a := 0) (b := 3) rfl rfl with ⟨g, h⟩ | ⟨g, h⟩
    · rw [g]
      have d0 : ¬ p2 = 0 := by rintro rfl; revert h; decide
      have d1 : ¬ p2 = 1 := by rintro rfl; revert h; decide
      have d2 : ¬ p2 = 2 := by rintro rfl; revert h; decide
      have d3 : ¬ p2 = 3 := by rintro rfl; revert h; decide
      exact ⟨-1, by simp [d0, d1, d2, d3], rfl⟩
    · rw [g]
      have : p2 = 0 ∨ p2 = 1 ∨ p2 = 2 ∨ p2 = 3 := by
        have : p2.toInt = (0 : Nat) ∨ p2.toInt = (1 : Nat) ∨ p2.toInt = (2 : Nat) ∨ p2.toInt = (3 : Nat) := by omega
        rcases this with h | h | h | h
        · exact Or.inl (nat_eq h)
        · exact Or.inr (Or.inl (nat_eq h))
        · exact Or.inr (Or.inr (Or.inl (nat_eq h)))
        · exact Or.inr (Or.inr (Or.inr (nat_eq h)))
      rcases this with rfl | rfl | rfl | rfl
      · rw [m_its0 (by omega)]; exact ⟨_, rfl, rfl⟩
      · rw [m_its1 (by omega)]; exact ⟨_, rfl, rfl⟩
      · rw [m_its2 (by omega)]; exact ⟨_, rfl, rfl⟩
      · exact ⟨_, rfl, rfl⟩
theorem q_set (r : Rel s T I J P) (p1 p2 : Int32) : ∃ v I1 I2, F_X11_set I p1 p2 = some (v, I1) ∧ F_X12_set I1 p1 p2 = some (v, I2) ∧ Rel s T I2 J P := by
  by_cases h : (0 ≤ p1.toInt ∧ p1.toInt ≤ 5) ∧ 0 ≤ p2.toInt ∧ p2.toInt ≤ 63
  · obtain ⟨⟨h1, h2⟩, h3, h4⟩ := h
    obtain ⟨n, hC, hz, hL, hH, hA⟩ := r.now
    have e5 : I 67 p1.toInt.toNat = I 103 p1.toInt.toNat := hL _ (by omega)
    refine ⟨I 67 p1.toInt.toNat, up2 I 67 p1.toInt.toNat p2, up2 (up2 I 67 p1.toInt.toNat p2) 103 p1.toInt.toNat p2, ?_, ?_, ?_⟩
    · unfold F_X11_set
      simp only [Int32.lt_iff_toInt_lt, Int32.le_iff_toInt_le, Int32.reduceToInt, clampT]
      rw [if_neg (by omega), if_neg (by omega), if_neg (by omega), if_pos (by omega)]
      rfl
    · unfold F_X12_set F_X12_isLaw
      rw [in1 (a := 0) (b := 5) rfl rfl ⟨h1, h2⟩, in1 (a := 0) (b := 63) rfl rfl ⟨h3, h4⟩, if_neg (by decide), if_neg (by decide), if_pos (inbT h1 (by omega))]
      simp only [letb, clampT]
      rw [if_pos (inbT h1 (by omega)), e5]
      rfl
    · have f : Fr [67, 103] [] [] [] [] I (up2 (up2 I 67 p1.toInt.toNat p2) 103 p1.toInt.toNat p2) J J P P := ⟨fun x hx _ _ => by
          simp only [List.mem_cons, List.not_mem_nil, or_false, not_or] at hx
          rw [up2_oth _ _ _ hx.2, up2_oth _ _ _ hx.1], fun j _ => rfl, fun j _ => rfl, fun _ _ => rfl, fun _ _ => rfl⟩
      refine ⟨r.t60, fr_sin r.sin f (by decide), fr_shp r.shp f (by decide), ?_, fr_kept r.kept f (by decide), fr_tape r.tape f (by decide), fr_rows r.rows f (by decide), fr_sh r.sh f (by decide), fr_shf r.shf f (by decide), fr_tr r.tr f (by decide)⟩
      refine ⟨n, hC.mv (f.cells (by decide)) rfl rfl rfl rfl, hz, fun j hj => ?_, hH, hA⟩
      rw [up2_oth _ _ _ (by decide), up2_row, up2_row]
      show (if _ then _ else _) = if _ then _ else _
      split
      · rfl
      · rw [up2_oth _ _ _ (by decide)]; exact hL j hj
  · refine ⟨-1, I, I, ?_, ?_, r⟩
    · unfold F_X11_set
      simp only [Int32.lt_iff_toInt_lt, Int32.le_iff_toInt_le, Int32.reduceToInt]
      by_cases a1 : p1.toInt < 0
      · rw [if_pos a1]
      · by_cases a2 : 6 ≤ p1.toInt
        · rw [if_neg a1, if_pos a2]
        · by_cases a3 : p2.toInt < 0
          · rw [if_neg a1, if_neg a2, if_pos a3]
          · rw [if_neg a1, if_neg a2, if_neg a3, if_neg (by omega)]
    · unfold F_X12_set F_X12_isLaw
      rcases in0 p1 0 5 (a := 0) (b := 5) rfl rfl with ⟨g, h1⟩ | ⟨g, h1⟩
      · rw [g]; rfl
      · rcases in0 p2 0 63 (a := 0) (b := 63) rfl rfl with ⟨g2, h2⟩ | ⟨g2, h2⟩
        · rw [g, g2]; rfl
        · omega
