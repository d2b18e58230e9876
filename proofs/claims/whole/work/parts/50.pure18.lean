/-! sheets -/
section
variable {s : Nat} {T : TM} {I I' : IM} {J : JM} {P : PM}
theorem d02 : ((0 : Int32) = 2) = False := eq_false (by decide)
theorem d01 : ((0 : Int32) = 1) = False := eq_false (by decide)
theorem d12 : ((1 : Int32) = 2) = False := eq_false (by decide)
theorem d10 : ((1 : Int32) = 0) = False := eq_false (by decide)
theorem d20 : ((2 : Int32) = 0) = False := eq_false (by decide)
theorem d21 : ((2 : Int32) = 1) = False := eq_false (by decide)
theorem n10 : ¬ (1 : Int32) = 0 := by decide
theorem lt40n {i : Nat} (h : i < 40) : ¬ (40 : Int32) ≤ nI i := nI_ge (a := i) (b := 40) h (by decide)
theorem shelf_eq (p : Int32) : F_X11_isShelf p = F_X12_isShelf p := by
  unfold F_X11_isShelf F_X12_isShelf F_X12_in
  simp only [Int32.lt_iff_toInt_lt, Int32.le_iff_toInt_le, Int32.reduceToInt]
  by_cases a1 : p.toInt < 0
  · rw [if_pos a1, if_pos a1]
  · by_cases a2 : 4 ≤ p.toInt
    · rw [if_neg a1, if_neg a1, if_pos a2, if_pos (by omega)]
    · rw [if_neg a1, if_neg a1, if_neg a2, if_neg (by omega)]
theorem shelf_01 (p : Int32) : F_X12_isShelf p = 0 ∨ (F_X12_isShelf p = 1 ∧ ∃ q, q < 4 ∧ p = nI q) := by
  unfold F_X12_isShelf
  rcases in0 p 0 3 (a := 0) (b := 3) rfl rfl with ⟨g, h⟩ | ⟨g, h⟩
  · exact Or.inl g
  · exact Or.inr ⟨g, p.toInt.toNat, by omega, of_nat h.1⟩
theorem shelf_1 {q : Nat} (h : q < 4) : F_X12_isShelf (nI q) = 1 := in1 (a := 0) (b := 3) rfl rfl ⟨by rw [nI_toInt (by omega)]; omega, by rw [nI_toInt (by omega)]; omega⟩
theorem isSb_q {q : Nat} (h : q < 4) : isSb (93 + 2 * q) = true := by
  have : q = 0 ∨ q = 1 ∨ q = 2 ∨ q = 3 := by omega
  rcases this with rfl | rfl | rfl | rfl <;> rfl
theorem sheet_cases (h : qShp P) (p : Int32) : (F_X12_isShelf p = 0 ∧ F_X11_sheetAt P p = some none) ∨ (F_X12_isShelf p = 1 ∧ ∃ q, q < 4 ∧ p = nI q ∧ F_X11_sheetAt P p = some (some (93 + 2 * q))) := by
  unfold F_X12_isShelf F_X11_sheetAt
  simp only [Int32.lt_iff_toInt_lt, Int32.le_iff_toInt_le, Int32.reduceToInt]
  rcases in0 p 0 3 (a := 0) (b := 3) rfl rfl with ⟨g, h1⟩ | ⟨g, h1⟩
  · refine Or.inl ⟨g, ?_⟩
    by_cases a1 : p.toInt < 0
    · rw [if_pos a1]
    · rw [if_neg a1, if_pos (by omega)]
  · refine Or.inr ⟨g, p.toInt.toNat, by omega, of_nat h1.1, ?_⟩
    rw [if_neg (by omega), if_neg (by omega), clampT, osel_s (h _ (by omega))]
theorem so_cases {so : Int32} (h : -1 ≤ so.toInt ∧ so.toInt ≤ 3) : (so = -1 ∧ ¬ 0 ≤ so) ∨ (¬ so = -1 ∧ 0 ≤ so) := by
  by_cases a : so = -1
  · exact Or.inl ⟨a, by rw [a]; decide⟩
  · refine Or.inr ⟨a, ?_⟩
    have : ¬ so.toInt = (-1 : Int32).toInt := fun e => a (Int32.toInt_inj.mp e)
    rw [tm1] at this
    rw [Int32.le_iff_toInt_le]
    simp only [Int32.reduceToInt]
    omega
theorem sh_idx : ∀ q, q < 4 → ∀ i, i < 40 → inb (40 * nI q + nI i) 160 = true ∧ (40 * nI q + nI i).toNatClampNeg = 40 * q + i := by decide +kernel
theorem inb4 {q : Nat} (h : q < 4) : inb (nI q) 4 = true := inbN h (by decide)
theorem clamp4 {q : Nat} (h : q < 4) : (nI q).toNatClampNeg = q := nI_clamp (by omega)
/-- a place in a row, as both see it -/
theorem ln_cases {m : Nat} (hm : m ≤ 40) (p : Int32) : (F_X12_in p 0 (nI m - 1) = 0 ∧ (p < 0 ∨ (¬ p < 0 ∧ ¬ p < nI m))) ∨ (F_X12_in p 0 (nI m - 1) = 1 ∧ ¬ p < 0 ∧ p < nI m ∧ ∃ i, i < m ∧ p = nI i) := by
  have hs : (nI m - 1).toInt = (m : Int) - 1 := nI_sub1 (by omega)
  have hn : (nI m).toInt = m := nI_toInt (by omega)
  simp only [Int32.lt_iff_toInt_lt, Int32.reduceToInt, hn]
  rcases in0 p 0 (nI m - 1) (a := 0) (b := (m : Int) - 1) rfl hs with ⟨g, h⟩ | ⟨g, h⟩
  · refine Or.inl ⟨g, ?_⟩
    omega
  · exact Or.inr ⟨g, by omega, by omega, p.toInt.toNat, by omega, of_nat h.1⟩
theorem sort_cases (p : Int32) : (F_X12_in p 0 3 = 0 ∧ (p < 0 ∨ (¬ p < 0 ∧ ¬ p < 4))) ∨ (F_X12_in p 0 3 = 1 ∧ ¬ p < 0 ∧ p < 4) := by
  simp only [Int32.lt_iff_toInt_lt, Int32.reduceToInt]
  rcases in0 p 0 3 (a := 0) (b := 3) rfl rfl with ⟨g, h⟩ | ⟨g, h⟩
  · refine Or.inl ⟨g, ?_⟩
    omega
  · exact Or.inr ⟨g, by omega, by omega⟩
theorem q_item (r : Rel s T I J P) (p1 p2 p3 : Int32) : ∃ v, F_X11_item I J P p1 p2 p3 = some v ∧ F_X12_item I J p1 p2 p3 = some v := by
  unfold F_X11_item F_X12_item F_X12_lacksSort
  rcases sheet_cases r.shp p1 with ⟨g, e⟩ | ⟨g, q, hq, rfl, e⟩
  · rw [g, e]; exact ⟨-1, rfl, rfl⟩
  · obtain ⟨h1, h2, ⟨m, hm, h3, h4⟩, h5⟩ := r.sh q hq
    rw [g, e, if_neg n10]
    simp only [Option.bind_some]
    rw [osel_s rfl, if_pos (isSb_q hq), h2, h4, clamp4 hq, if_pos (inb4 hq), h3, if_pos (inb4 hq), if_pos (inb4 hq)]
    rcases sort_cases p2 with ⟨g2, d⟩ | ⟨g2, d1, d2⟩
    · refine ⟨-1, ?_, by rw [g2]; rfl⟩
      rcases d with d | ⟨d, d2⟩
      · rw [if_pos d]
      · rw [if_neg d, if_neg d2]
    · rw [g2, if_neg n10, if_neg d1, if_pos d2]
      rcases so_cases h1 with ⟨a1, a2⟩ | ⟨a1, a2⟩
      · rw [if_pos a1, if_neg a2]; exact ⟨-11, rfl, rfl⟩
      · rw [if_neg a1, if_pos a2]
        by_cases b : I 115 q = p2
        · rw [if_pos b, if_pos b]
          simp only [Option.bind_some, if_true]
          rcases ln_cases hm p3 with ⟨g3, d⟩ | ⟨g3, c1, c2, i, hi, rfl⟩
          · refine ⟨-12, ?_, by rw [g3]; rfl⟩
            rcases d with d | ⟨d, d2⟩
            · rw [if_pos d]
            · rw [if_neg d, if_neg d2]
          · rw [g3, if_neg c1, if_pos c2, if_pos (inbN (by omega) (by decide)), nI_clamp (by omega), if_neg n10, if_pos (sh_idx q hq i (by omega)).1, (sh_idx q hq i (by omega)).2]
            refine ⟨_, rfl, ?_⟩
            rw [show 93 + 2 * q + 1 = 94 + 2 * q by omega, (h5 i (by omega)).1]
        · rw [if_neg b, if_neg b]; exact ⟨-13, rfl, rfl⟩
def nrw (so v : Int32) : Int64 := if so = 0 then (Int32.toInt64 ((Int32.toInt8 v).toInt32)) else (if so = 1 then (Int32.toInt64 ((Int32.toInt16 v).toInt32)) else (Int32.toInt64 v))
theorem small_64 (x : Int32) : small (Int32.toInt64 x) := by
  unfold small
  rw [Int32.toInt_toInt64]
  have h1 := Int32.le_toInt x
  have h2 := Int32.toInt_lt x
  omega
theorem nrw_small (so v : Int32) : small (nrw so v) := by
  unfold nrw
  repeat' split
  all_goals exact small_64 _
theorem sh_put (r : Rel s T I J P) {q i : Nat} (hq : q < 4) (hi : i < 40) {v : Int64} (hv : small v) : Rel s T I (up2 (up2 J (94 + 2 * q) i v) 117 (40 * q + i) v) P := by
  have f : Fr [] [] [94, 96, 98, 100, 117] [] [] I I J (up2 (up2 J (94 + 2 * q) i v) 117 (40 * q + i) v) P P := ⟨fun _ _ _ _ => rfl, fun _ _ => rfl, fun _ _ => rfl, fun _ _ => rfl, fun x hx => by
    simp only [List.mem_cons, List.not_mem_nil, or_false, not_or] at hx
    rw [up2_oth _ _ _ hx.2.2.2.2, up2_oth _ _ _ (by omega)]⟩
  refine ⟨r.t60, fr_sin r.sin f (by decide), fr_shp r.shp f (by decide), fr_now r.now f (by decide), fr_kept r.kept f (by decide), fr_tape r.tape f (by decide), fr_rows r.rows f (by decide), ?_, fr_shf r.shf f (by decide), fr_tr r.tr f (by decide)⟩
  intro q' hq'
  obtain ⟨h1, h2, h3, h5⟩ := r.sh q' hq'
  refine ⟨h1, h2, h3, fun k hk => ?_⟩
  have d1 : ¬ 94 + 2 * q' = 117 := by omega
  by_cases c : q' = q ∧ k = i
  · have e1 : up2 (up2 J (94 + 2 * q) i v) 117 (40 * q + i) v (94 + 2 * q') k = v := by simp [up2, c.1, c.2]
    have e2 : up2 (up2 J (94 + 2 * q) i v) 117 (40 * q + i) v 117 (40 * q' + k) = v := by simp [up2, c.1, c.2]
    rw [e1]
    exact ⟨e2.symm, hv⟩
  · have n1 : ¬ (94 + 2 * q' = 94 + 2 * q ∧ k = i) := by omega
    have n2 : ¬ (40 * q' + k = 40 * q + i) := by omega
    have n3 : ¬ (117 = 94 + 2 * q) := by omega
    have e1 : up2 (up2 J (94 + 2 * q) i v) 117 (40 * q + i) v (94 + 2 * q') k = J (94 + 2 * q') k := by rw [up2_n _ _ (by omega), up2_n _ _ n1]
    have e2 : up2 (up2 J (94 + 2 * q) i v) 117 (40 * q + i) v 117 (40 * q' + k) = J 117 (40 * q' + k) := by rw [up2_n _ _ (by omega), up2_n _ _ (by omega)]
    rw [e1]
    exact ⟨((h5 k hk).1).trans e2.symm, (h5 k hk).2⟩
theorem q_put (r : Rel s T I J P) (p1 p2 p3 : Int32) : ∃ v J1 J2, F_X11_put I J P p1 p2 p3 = some (v, J1) ∧ F_X12_put I J1 p1 p2 p3 = some (v, J2) ∧ Rel s T I J2 P := by
  rcases sheet_cases r.shp p1 with ⟨g, e⟩ | ⟨g, q, hq, rfl, e⟩
  · refine ⟨-1, J, J, ?_, ?_, r⟩
    · unfold F_X11_put; rw [e]; rfl
    · unfold F_X12_put; rw [g]; rfl
  · obtain ⟨h1, h2, ⟨m, hm, h3, h4⟩, h5⟩ := r.sh q hq
    have en : F_X3_narrowed I (93 + 2 * q) p3 = nrw (I 115 q) p3 := by unfold F_X3_narrowed nrw; rw [h2]
    have ex : F_X11_put I J P (nI q) p2 p3 = (if I 115 q = (-1) then some ((-11), J) else if p2 < 0 then some ((-12), J) else if p2 < nI m then (if inb p2 40 = true then some (1, up2 J (94 + 2 * q) p2.toNatClampNeg (nrw (I 115 q) p3)) else none) else some ((-12), J)) := by
      unfold F_X11_put
      rw [e]
      simp only [Option.bind_some]
      rw [osel_s rfl, if_pos (isSb_q hq), h2, h4, en, show 93 + 2 * q + 1 = 94 + 2 * q by omega]
      rfl
    have em : ∀ J1 : JM, F_X12_put I J1 (nI q) p2 p3 = if 0 ≤ I 115 q then (if F_X12_in p2 0 (nI m - 1) = 0 then some ((-12), J1) else (if inb (40 * nI q + p2) 160 = true then some (1, up2 J1 117 (40 * nI q + p2).toNatClampNeg (nrw (I 115 q) p3)) else none)) else some ((-11), J1) := by
      intro J1
      unfold F_X12_put nrw
      rw [g]
      simp only [clamp4 hq, inb4 hq, if_true, d10, if_false, letb, h3]
      by_cases b0 : I 115 q = 0
      · simp only [if_pos b0]
      · by_cases b1 : I 115 q = 1
        · simp only [if_neg b0, if_pos b1]
        · simp only [if_neg b0, if_neg b1]
    rcases so_cases h1 with ⟨a1, a2⟩ | ⟨a1, a2⟩
    · exact ⟨-11, J, J, by rw [ex, if_pos a1], by rw [em, if_neg a2], r⟩
    · rcases ln_cases hm p2 with ⟨g3, d⟩ | ⟨g3, c1, c2, i, hi, rfl⟩
      · refine ⟨-12, J, J, ?_, by rw [em, if_pos a2, g3]; rfl, r⟩
        rw [ex, if_neg a1]
        rcases d with d | ⟨d, d2⟩
        · rw [if_pos d]
        · rw [if_neg d, if_neg d2]
      · refine ⟨1, up2 J (94 + 2 * q) i (nrw (I 115 q) p3), up2 (up2 J (94 + 2 * q) i (nrw (I 115 q) p3)) 117 (40 * q + i) (nrw (I 115 q) p3), ?_, ?_, sh_put r hq (by omega) (nrw_small _ _)⟩
        · rw [ex, if_neg a1, if_neg c1, if_pos c2, if_pos (inbN (by omega) (by decide)), nI_clamp (by omega)]
        · rw [em, if_pos a2, g3, if_neg n10, if_pos (sh_idx q hq i (by omega)).1, (sh_idx q hq i (by omega)).2]
theorem x_becL {N c : Nat} : ∀ (m i : Nat) (J : JM), i + m = 40 → ∀ f, m < f → ∃ J', G_X3_become_12 N I c f (nI i) J = some (I, J') ∧ (∀ b, b ≠ c + 1 → J' b = J b) ∧ (∀ k, k < i → J' (c + 1) k = J (c + 1) k) ∧ ∀ k, i ≤ k → k < 40 → J' (c + 1) k = 0 := by
  intro m
  induction m with
  | zero =>
    intro i J hi f hf
    obtain ⟨f, rfl⟩ : ∃ g, f = g + 1 := ⟨f - 1, by omega⟩
    refine ⟨J, ?_, fun _ _ => rfl, fun _ _ => rfl, fun k h1 h2 => by omega⟩
    rw [G_X3_become_12, if_pos (by rw [show i = 40 by omega]; decide)]
  | succ m ih =>
    intro i J hi f hf
    obtain ⟨f, rfl⟩ : ∃ g, f = g + 1 := ⟨f - 1, by omega⟩
    obtain ⟨J1, e, f1, f2, f3⟩ := ih (i + 1) (up2 J (c + 1) i 0) (by omega) f (by omega)
    refine ⟨J1, ?_, fun b hb => by rw [f1 b hb, up2_oth _ _ _ hb], fun k hk => by rw [f2 k (by omega), up2_n _ _ (by omega)], fun k h1 h2 => ?_⟩
    · rw [G_X3_become_12, if_neg (lt40n (by omega)), if_pos (inbN (by omega) (by decide)), nI_clamp (by omega), nI_1]
      exact e
    · by_cases q : k = i
      · rw [q, f2 i (by omega), up2_s]
      · exact f3 k (by omega) h2
theorem m_shL {N q : Nat} (hq : q < 4) : ∀ (m i : Nat) (J : JM), i + m = 40 → ∀ f, m < f → ∃ J', G_X12_sheet_64 N I (nI q) f (nI i) J = some (1, I, J') ∧ (∀ b, b ≠ 117 → J' b = J b) ∧ (∀ k, k < 40 * q + i ∨ 40 * q + 40 ≤ k → J' 117 k = J 117 k) ∧ ∀ k, 40 * q + i ≤ k → k < 40 * q + 40 → J' 117 k = 0 := by
  intro m
  induction m with
  | zero =>
    intro i J hi f hf
    obtain ⟨f, rfl⟩ : ∃ g, f = g + 1 := ⟨f - 1, by omega⟩
    refine ⟨J, ?_, fun _ _ => rfl, fun _ _ => rfl, fun k h1 h2 => by omega⟩
    rw [G_X12_sheet_64, if_pos (by rw [show i = 40 by omega]; decide)]
  | succ m ih =>
    intro i J hi f hf
    obtain ⟨f, rfl⟩ : ∃ g, f = g + 1 := ⟨f - 1, by omega⟩
    obtain ⟨J1, e, f1, f2, f3⟩ := ih (i + 1) (up2 J 117 (40 * q + i) 0) (by omega) f (by omega)
    refine ⟨J1, ?_, fun b hb => by rw [f1 b hb, up2_oth _ _ _ hb], fun k hk => by rw [f2 k (by omega), up2_n _ _ (by omega)], fun k h1 h2 => ?_⟩
    · rw [G_X12_sheet_64, if_neg (lt40n (by omega)), if_pos (sh_idx q hq i (by omega)).1, (sh_idx q hq i (by omega)).2, nI_1]
      exact e
    · by_cases z : k = 40 * q + i
      · rw [z, f2 _ (by omega), up2_s]
      · exact f3 k (by omega) h2
/-- a sheet becomes another, on both sides -/
theorem sh_new {N : Nat} (hN : 40 < N) (r : Rel s T I J P) {q m : Nat} (hq : q < 4) (hm : m ≤ 40) {so : Int32} (hso : -1 ≤ so.toInt ∧ so.toInt ≤ 3) : ∃ J1 J2, F_X3_become N I J (93 + 2 * q) so (nI m) = some (up2 (up2 I (93 + 2 * q) 0 so) (93 + 2 * q) 1 (nI m), J1) ∧ G_X12_sheet_64 N (up2 (up2 (up2 (up2 I (93 + 2 * q) 0 so) (93 + 2 * q) 1 (nI m)) 115 q so) 116 q (nI m)) (nI q) N 0 J1 = some (1, up2 (up2 (up2 (up2 I (93 + 2 * q) 0 so) (93 + 2 * q) 1 (nI m)) 115 q so) 116 q (nI m), J2) ∧ Rel s T (up2 (up2 (up2 (up2 I (93 + 2 * q) 0 so) (93 + 2 * q) 1 (nI m)) 115 q so) 116 q (nI m)) J2 P := by
  obtain ⟨J1, e1, f1, f2, f3⟩ := x_becL (N := N) (I := up2 (up2 I (93 + 2 * q) 0 so) (93 + 2 * q) 1 (nI m)) (c := 93 + 2 * q) 40 0 J rfl N hN
  obtain ⟨J2, e2, g1, g2, g3⟩ := m_shL (N := N) (I := up2 (up2 (up2 (up2 I (93 + 2 * q) 0 so) (93 + 2 * q) 1 (nI m)) 115 q so) 116 q (nI m)) hq 40 0 J1 rfl N hN
  refine ⟨J1, J2, ?_, e2, ?_⟩
  · unfold F_X3_become
    exact e1
  · rw [show 93 + 2 * q + 1 = 94 + 2 * q by omega] at f1 f2 f3
    have f : Fr [93, 95, 97, 99, 115, 116] [] [94, 96, 98, 100, 117] [] [] I (up2 (up2 (up2 (up2 I (93 + 2 * q) 0 so) (93 + 2 * q) 1 (nI m)) 115 q so) 116 q (nI m)) J J2 P P := by
      refine ⟨fun x hx _ _ => ?_, fun j _ => ?_, fun j _ => ?_, fun _ _ => rfl, fun x hx => ?_⟩
      · simp only [List.mem_cons, List.not_mem_nil, or_false, not_or] at hx
        rw [up2_oth _ _ _ hx.2.2.2.2.2, up2_oth _ _ _ hx.2.2.2.2.1, up2_oth _ _ _ (by omega), up2_oth _ _ _ (by omega)]
      · rw [up2_oth _ _ _ (by decide), up2_oth _ _ _ (by decide), up2_oth _ _ _ (by omega), up2_oth _ _ _ (by omega)]
      · rw [up2_oth _ _ _ (by decide), up2_oth _ _ _ (by decide), up2_oth _ _ _ (by omega), up2_oth _ _ _ (by omega)]
      · simp only [List.mem_cons, List.not_mem_nil, or_false, not_or] at hx
        rw [g1 x hx.2.2.2.2, f1 x (by omega)]
    refine ⟨r.t60, fr_sin r.sin f (by decide), fr_shp r.shp f (by decide), fr_now r.now f (by decide), fr_kept r.kept f (by decide), fr_tape r.tape f (by decide), fr_rows r.rows f (by decide), ?_, fr_shf r.shf f (by decide), fr_tr r.tr f (by decide)⟩
    intro q' hq'
    by_cases c : q' = q
    · subst c
      have i0 : up2 (up2 (up2 (up2 I (93 + 2 * q') 0 so) (93 + 2 * q') 1 (nI m)) 115 q' so) 116 q' (nI m) (93 + 2 * q') 0 = so := by
        rw [up2_n _ _ (by omega), up2_n _ _ (by omega), up2_n _ _ (by omega), up2_s]
      have i1 : up2 (up2 (up2 (up2 I (93 + 2 * q') 0 so) (93 + 2 * q') 1 (nI m)) 115 q' so) 116 q' (nI m) (93 + 2 * q') 1 = nI m := by
        rw [up2_n _ _ (by omega), up2_n _ _ (by omega), up2_s]
      have i2 : up2 (up2 (up2 (up2 I (93 + 2 * q') 0 so) (93 + 2 * q') 1 (nI m)) 115 q' so) 116 q' (nI m) 115 q' = so := by
        rw [up2_n _ _ (by omega), up2_s]
      have i3 : up2 (up2 (up2 (up2 I (93 + 2 * q') 0 so) (93 + 2 * q') 1 (nI m)) 115 q' so) 116 q' (nI m) 116 q' = nI m := up2_s _ _ _ _
      unfold SH
      rw [i0, i1, i2, i3]
      refine ⟨hso, rfl, ⟨m, hm, rfl, rfl⟩, fun k hk => ?_⟩
      rw [g1 _ (by omega), f3 k (by omega) hk]
      show (0 : Int64) = J2 117 (40 * q' + k) ∧ small 0
      rw [g3 _ (by omega) (by omega)]
      exact ⟨rfl, by unfold small; decide⟩
    · obtain ⟨h1, h2, h3, h5⟩ := r.sh q' hq'
      have i0 : up2 (up2 (up2 (up2 I (93 + 2 * q) 0 so) (93 + 2 * q) 1 (nI m)) 115 q so) 116 q (nI m) (93 + 2 * q') = I (93 + 2 * q') := by
        rw [up2_oth _ _ _ (by omega), up2_oth _ _ _ (by omega), up2_oth _ _ _ (by omega), up2_oth _ _ _ (by omega)]
      have i2 : up2 (up2 (up2 (up2 I (93 + 2 * q) 0 so) (93 + 2 * q) 1 (nI m)) 115 q so) 116 q (nI m) 115 q' = I 115 q' := by
        rw [up2_n _ _ (by omega), up2_n _ _ (by omega), up2_n _ _ (by omega), up2_n _ _ (by omega)]
      have i3 : up2 (up2 (up2 (up2 I (93 + 2 * q) 0 so) (93 + 2 * q) 1 (nI m)) 115 q so) 116 q (nI m) 116 q' = I 116 q' := by
        rw [up2_n _ _ (by omega), up2_n _ _ (by omega), up2_n _ _ (by omega), up2_n _ _ (by omega)]
      rw [i0, i2, i3]
      refine ⟨h1, h2, h3, fun k hk => ?_⟩
      have j1 : J2 (94 + 2 * q') = J (94 + 2 * q') := by rw [g1 _ (by omega), f1 _ (by omega)]
      have j2 : J2 117 (40 * q' + k) = J 117 (40 * q' + k) := by rw [g2 _ (by omega), f1 _ (by omega)]
      rw [j1]
      exact ⟨((h5 k hk).1).trans j2.symm, (h5 k hk).2⟩
theorem q_sheet {N : Nat} (hN : 40 < N) (r : Rel s T I J P) (p1 p2 p3 : Int32) : ∃ v I1 J1 I2 J2, F_X11_sheet N I J P p1 p2 p3 = some (v, I1, J1) ∧ F_X12_sheet N I1 J1 p1 p2 p3 = some (v, I2, J2) ∧ Rel s T I2 J2 P := by
  rcases sheet_cases r.shp p1 with ⟨g, e⟩ | ⟨g, q, hq, rfl, e⟩
  · refine ⟨-1, I, J, I, J, ?_, ?_, r⟩
    · unfold F_X11_sheet; rw [e]; rfl
    · unfold F_X12_sheet; rw [g]; rfl
  · have ex : F_X11_sheet N I J P (nI q) p2 p3 = (if p2 < (-1) then (some ((-1), I, J)) else (if p2 < 4 then (if p2 = (-1) then ((F_X3_become N I J (93 + 2 * q) (-1) 0).bind (fun x10 => (some (1, x10.1, x10.2)))) else (if p3 ≤ 40 then (if 0 ≤ p3 then ((F_X3_become N I J (93 + 2 * q) p2 p3).bind (fun x9 => (some (1, x9.1, x9.2)))) else (some ((-14), I, J))) else (some ((-1), I, J)))) else (some ((-1), I, J)))) := by
      unfold F_X11_sheet
      rw [e]
      simp only [Option.bind_some]
      rw [osel_s rfl, if_pos (isSb_q hq)]
    have em : ∀ (I1 : IM) (J1 : JM), F_X12_sheet N I1 J1 (nI q) p2 p3 = (if F_X12_in p2 (-1) 3 = 0 then some ((-1), I1, J1) else if p2 < 0 then G_X12_sheet_64 N (up2 (up2 I1 115 q p2) 116 q (if 0 ≤ p2 then p3 else 0)) (nI q) N 0 J1 else if p3 ≤ 40 then (if 0 ≤ p3 then G_X12_sheet_64 N (up2 (up2 I1 115 q p2) 116 q (if 0 ≤ p2 then p3 else 0)) (nI q) N 0 J1 else some ((-14), I1, J1)) else some ((-1), I1, J1)) := by
      intro I1 J1
      unfold F_X12_sheet
      rw [g]
      simp only [clamp4 hq, inb4 hq, if_true, d10, if_false, letb]
      by_cases b0 : p2 < 0
      · simp only [if_pos b0]
      · simp only [if_neg b0]
    rcases in0 p2 (-1) 3 (a := -1) (b := 3) rfl rfl with ⟨g2, h⟩ | ⟨g2, h⟩
    · refine ⟨-1, I, J, I, J, ?_, by rw [em, g2]; rfl, r⟩
      rw [ex]
      simp only [Int32.lt_iff_toInt_lt, Int32.reduceToInt, tm1]
      by_cases a1 : p2.toInt < -1
      · rw [if_pos a1]
      · rw [if_neg a1, if_neg (by omega)]
    · have d1 : ¬ p2 < -1 := by rw [Int32.lt_iff_toInt_lt, tm1]; omega
      have d2 : p2 < 4 := by rw [Int32.lt_iff_toInt_lt]; simp only [Int32.reduceToInt]; omega
      rcases so_cases h with ⟨a1, a2⟩ | ⟨a1, a2⟩
      · subst a1
        obtain ⟨J1, J2, e1, e2, r2⟩ := sh_new (N := N) hN r hq (m := 0) (by decide) h
        refine ⟨1, up2 (up2 I (93 + 2 * q) 0 (-1)) (93 + 2 * q) 1 (nI 0), J1, _, J2, ?_, ?_, r2⟩
        · rw [ex, if_neg d1, if_pos d2, if_pos rfl, show F_X3_become N I J (93 + 2 * q) (-1) 0 = _ from e1]
          rfl
        · rw [em, g2, if_neg n10, if_pos (by decide), if_neg (by decide)]
          exact e2
      · have a3 : ¬ p2 < 0 := by rw [Int32.lt_iff_toInt_lt]; rw [Int32.le_iff_toInt_le] at a2; omega
        by_cases b1 : p3 ≤ 40
        · by_cases b2 : 0 ≤ p3
          · have b1' : p3.toInt ≤ 40 := by rw [Int32.le_iff_toInt_le] at b1; exact b1
            have b2' : 0 ≤ p3.toInt := by rw [Int32.le_iff_toInt_le] at b2; exact b2
            obtain ⟨m, hm, rfl⟩ : ∃ m, m ≤ 40 ∧ p3 = nI m := ⟨p3.toInt.toNat, by omega, of_nat b2'⟩
            obtain ⟨J1, J2, e1, e2, r2⟩ := sh_new (N := N) hN r hq hm h
            refine ⟨1, up2 (up2 I (93 + 2 * q) 0 p2) (93 + 2 * q) 1 (nI m), J1, _, J2, ?_, ?_, r2⟩
            · rw [ex, if_neg d1, if_pos d2, if_neg a1, if_pos b1, if_pos b2, e1]
              rfl
            · rw [em, g2, if_neg n10, if_neg a3, if_pos b1, if_pos b2, if_pos a2]
              exact e2
          · refine ⟨-14, I, J, I, J, ?_, ?_, r⟩
            · rw [ex, if_neg d1, if_pos d2, if_neg a1, if_pos b1, if_neg b2]
            · rw [em, g2, if_neg n10, if_neg a3, if_pos b1, if_neg b2]
        · refine ⟨-1, I, J, I, J, ?_, ?_, r⟩
          · rw [ex, if_neg d1, if_pos d2, if_neg a1, if_neg b1]
          · rw [em, g2, if_neg n10, if_neg a3, if_neg b1]
end
