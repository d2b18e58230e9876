section
variable {s : Nat} {T : TM} {I : IM} {J : JM} {P : PM}
def sumF (H : Nat → Int32) : Nat → Nat → Int32 → Int32
  | _, 0, u => u
  | i, m + 1, u => sumF H (i + 1) m (u + H i)
theorem sumF_congr {H H' : Nat → Int32} : ∀ (m i : Nat) (u : Int32), (∀ j, i ≤ j → j < i + m → H j = H' j) → sumF H i m u = sumF H' i m u := by
  intro m
  induction m with
  | zero => intro i u _; rfl
  | succ m ih =>
    intro i u h
    unfold sumF
    rw [h i (Nat.le_refl _) (by omega)]
    exact ih _ _ (fun j h1 h2 => h j (by omega) (by omega))
theorem lt5n {i : Nat} (h : i < 5) : ¬ (5 : Int32) ≤ nI i := nI_ge (a := i) (b := 5) h (by decide)
theorem inbN {i n : Nat} (h : i < n) (hn : n < 100000) : inb (nI i) n = true := inbT (by rw [nI_toInt (by omega)]; omega) (by rw [nI_toInt (by omega)]; omega)
theorem x_sumL {N w : Nat} {I : IM} : ∀ (m i f : Nat) (u : Int32), m + i = 5 → m < f → G_X10_allWeights_4 N I w f u (nI i) = some (sumF (I (w + 3)) i m u) := by
  intro m
  induction m with
  | zero =>
    intro i f u hi hf
    obtain ⟨f, rfl⟩ : ∃ g, f = g + 1 := ⟨f - 1, by omega⟩
    rw [G_X10_allWeights_4, if_pos (by rw [show i = 5 by omega]; decide)]
    rfl
  | succ m ih =>
    intro i f u hi hf
    obtain ⟨f, rfl⟩ : ∃ g, f = g + 1 := ⟨f - 1, by omega⟩
    rw [G_X10_allWeights_4, if_neg (lt5n (by omega)), if_pos (inbN (by omega) (by decide))]
    simp only [letb]
    rw [nI_1, ih (i + 1) f _ (by omega) (by omega), nI_clamp (by omega)]
    rfl
theorem m_sumL {N : Nat} {I : IM} : ∀ (m i f : Nat) (u : Int32), m + i = 5 → m < f → G_X12_handMany_4 N I f u (nI i) = some (sumF (I 104) i m u) := by
  intro m
  induction m with
  | zero =>
    intro i f u hi hf
    obtain ⟨f, rfl⟩ : ∃ g, f = g + 1 := ⟨f - 1, by omega⟩
    rw [G_X12_handMany_4, if_pos (by rw [show i = 5 by omega]; decide)]
    rfl
  | succ m ih =>
    intro i f u hi hf
    obtain ⟨f, rfl⟩ : ∃ g, f = g + 1 := ⟨f - 1, by omega⟩
    rw [G_X12_handMany_4, if_neg (lt5n (by omega)), if_pos (inbN (by omega) (by decide))]
    simp only [letb]
    rw [nI_1, ih (i + 1) f _ (by omega) (by omega), nI_clamp (by omega)]
    rfl
theorem x_sum {N : Nat} (hN : 5 < N) {I : IM} : F_X10_allWeights N I 65 = some (sumF (I 68) 0 5 0) := x_sumL 5 0 N 0 rfl hN
theorem m_sum {N : Nat} (hN : 5 < N) {I : IM} : F_X12_handMany N I = some (sumF (I 104) 0 5 0) := m_sumL 5 0 N 0 rfl hN
theorem HR.sum {H H' : Nat → Int32} (h : HR H H') : sumF H 0 5 0 = sumF H' 0 5 0 := sumF_congr 5 0 0 (fun j _ h2 => (h.1 j (by omega)).1)
theorem sum5 {H : Nat → Int32} (h : ∀ j, j < 5 → 0 ≤ (H j).toInt ∧ (H j).toInt ≤ 9) : (sumF H 0 5 0).toInt = (H 0).toInt + (H 1).toInt + (H 2).toInt + (H 3).toInt + (H 4).toInt := by
  have h0 := h 0 (by decide)
  have h1 := h 1 (by decide)
  have h2 := h 2 (by decide)
  have h3 := h 3 (by decide)
  have h4 := h 4 (by decide)
  show (0 + H 0 + H 1 + H 2 + H 3 + H 4).toInt = _
  have z : (0 : Int32).toInt = 0 := rfl
  simp only [Int32.toInt_add, z]
  rw [Int.bmod_eq_of_le (n := (0 + (H 0).toInt)) (by omega) (by omega), Int.bmod_eq_of_le (n := (0 + (H 0).toInt + (H 1).toInt)) (by omega) (by omega), Int.bmod_eq_of_le (n := (0 + (H 0).toInt + (H 1).toInt + (H 2).toInt)) (by omega) (by omega), Int.bmod_eq_of_le (n := (0 + (H 0).toInt + (H 1).toInt + (H 2).toInt + (H 3).toInt)) (by omega) (by omega), Int.bmod_eq_of_le (by omega) (by omega)]
  omega
theorem HR.sum5 {H H' : Nat → Int32} (h : HR H H') : (sumF H 0 5 0).toInt = (H 0).toInt + (H 1).toInt + (H 2).toInt + (H 3).toInt + (H 4).toInt ∧ 1 ≤ (sumF H 0 5 0).toInt ∧ (sumF H 0 5 0).toInt ≤ 45 := by
  have e := Jvm.Pilot.CFallCardsLaw_law_r3848_f346d6.sum5 (H := H) (fun j hj => (h.1 j hj).2)
  have h0 := h.1 0 (by decide)
  have h1 := h.1 1 (by decide)
  have h2 := h.1 2 (by decide)
  have h3 := h.1 3 (by decide)
  have h4 := h.1 4 (by decide)
  have := h.2
  exact ⟨e, by omega, by omega⟩
theorem q_hand {N : Nat} (hN : 5 < N) (r : Rel s T I J P) (p1 p2 : Int32) : ∃ v I1 I2, F_X11_hand N I p1 p2 = some (v, I1) ∧ F_X12_hand N I1 p1 p2 = some (v, I2) ∧ Rel s T I2 J P := by
  by_cases h : (0 ≤ p1.toInt ∧ p1.toInt ≤ 4) ∧ 0 ≤ p2.toInt ∧ p2.toInt ≤ 9
  · obtain ⟨⟨h1, h2⟩, h3, h4⟩ := h
    obtain ⟨n, hC, hz, hL, hH, hA⟩ := r.now
    have hk : p1.toInt.toNat < 5 := by omega
    have eH := hH.1 p1.toInt.toNat hk
    obtain ⟨eS, s1, s2⟩ := hH.sum5
    have hsum := hH.sum
    have hd : ((sumF (I 68) 0 5 0 - I 68 p1.toInt.toNat) + p2).toInt = (sumF (I 68) 0 5 0).toInt - (I 68 p1.toInt.toNat).toInt + p2.toInt := by
      rw [Int32.toInt_add, Int32.toInt_sub, Int.bmod_eq_of_le (n := (sumF (I 68) 0 5 0).toInt - (I 68 p1.toInt.toNat).toInt) (by omega) (by omega), Int.bmod_eq_of_le (by omega) (by omega)]
    have ex : F_X11_hand N I p1 p2 = if ((sumF (I 68) 0 5 0 - I 68 p1.toInt.toNat) + p2) = 0 then some (-4, I) else some (I 68 p1.toInt.toNat, up2 I 68 p1.toInt.toNat p2) := by
      unfold F_X11_hand
      rw [x_sum hN]
      simp only [Int32.lt_iff_toInt_lt, Int32.le_iff_toInt_le, Int32.reduceToInt, clampT, letb, Option.bind_some]
      rw [if_neg (by omega), if_neg (by omega), if_neg (by omega), if_pos (by omega)]
    have em : ∀ I1 : IM, I1 104 = I 104 → F_X12_hand N I1 p1 p2 = if ((sumF (I 68) 0 5 0 - I 68 p1.toInt.toNat) + p2) = 0 then some (-4, I1) else some (I 68 p1.toInt.toNat, up2 I1 104 p1.toInt.toNat p2) := by
      intro I1 h104
      unfold F_X12_hand
      rw [m_sum hN, in1 (a := 0) (b := 4) rfl rfl ⟨h1, h2⟩, in1 (a := 0) (b := 9) rfl rfl ⟨h3, h4⟩, if_neg (by decide), if_neg (by decide)]
      have ib : inb p1 5 = true := inbT h1 (by omega)
      simp only [Option.bind_some, letb, clampT, if_pos ib]
      rw [h104, ← hsum, ← eH.1]
    by_cases h0 : ((sumF (I 68) 0 5 0 - I 68 p1.toInt.toNat) + p2) = 0
    · refine ⟨-4, I, I, by rw [ex, if_pos h0], by rw [em I rfl, if_pos h0], r⟩
    · refine ⟨I 68 p1.toInt.toNat, up2 I 68 p1.toInt.toNat p2, up2 (up2 I 68 p1.toInt.toNat p2) 104 p1.toInt.toNat p2, by rw [ex, if_neg h0], by rw [em _ (up2_oth _ _ _ (by decide)), if_neg h0], ?_⟩
      have h0' : ¬ ((sumF (I 68) 0 5 0 - I 68 p1.toInt.toNat) + p2).toInt = 0 := fun q => h0 (Int32.toInt_inj.mp q)
      rw [hd, eS] at h0'
      have f : Fr [68, 104] [] [] [] [] I (up2 (up2 I 68 p1.toInt.toNat p2) 104 p1.toInt.toNat p2) J J P P := ⟨fun x hx _ _ => by
          simp only [List.mem_cons, List.not_mem_nil, or_false, not_or] at hx
          rw [up2_oth _ _ _ hx.2, up2_oth _ _ _ hx.1], fun j _ => rfl, fun j _ => rfl, fun _ _ => rfl, fun _ _ => rfl⟩
      refine ⟨r.t60, fr_sin r.sin f (by decide), fr_shp r.shp f (by decide), ?_, fr_kept r.kept f (by decide), fr_tape r.tape f (by decide), fr_rows r.rows f (by decide), fr_sh r.sh f (by decide), fr_shf r.shf f (by decide), fr_tr r.tr f (by decide)⟩
      refine ⟨n, hC.mv (f.cells (by decide)) rfl rfl rfl rfl, hz, hL, ?_, hA⟩
      rw [up2_oth _ _ _ (by decide), up2_row, up2_row, up2_oth _ _ _ (by decide)]
      have g0 := hH.1 0 (by decide)
      have g1 := hH.1 1 (by decide)
      have g2 := hH.1 2 (by decide)
      have g3 := hH.1 3 (by decide)
      have g4 := hH.1 4 (by decide)
      refine ⟨fun j hj => ?_, ?_⟩
      · show (if _ then _ else _) = (if _ then _ else _) ∧ 0 ≤ (if _ then _ else _ : Int32).toInt ∧ (if _ then _ else _ : Int32).toInt ≤ 9
        by_cases q : j = p1.toInt.toNat
        · simp only [if_pos q]; exact ⟨trivial, h3, h4⟩
        · simp only [if_neg q]; exact hH.1 j hj
      · have : p1.toInt.toNat = 0 ∨ p1.toInt.toNat = 1 ∨ p1.toInt.toNat = 2 ∨ p1.toInt.toNat = 3 ∨ p1.toInt.toNat = 4 := by omega
        rcases this with q | q | q | q | q <;> rw [q] at h0' ⊢ <;> simp <;> omega
  · refine ⟨-1, I, I, ?_, ?_, r⟩
    · unfold F_X11_hand
      simp only [Int32.lt_iff_toInt_lt, Int32.le_iff_toInt_le, Int32.reduceToInt]
      by_cases a1 : p1.toInt < 0
      · rw [if_pos a1]
      · by_cases a2 : 5 ≤ p1.toInt
        · rw [if_neg a1, if_pos a2]
        · by_cases a3 : p2.toInt < 0
          · rw [if_neg a1, if_neg a2, if_pos a3]
          · rw [if_neg a1, if_neg a2, if_neg a3, if_neg (by omega)]
    · unfold F_X12_hand
      rcases in0 p1 0 4 (a := 0) (b := 4) rfl rfl with ⟨g, h1⟩ | ⟨g, h1⟩
      · rw [g]; rfl
      · rcases in0 p2 0 9 (a := 0) (b := 9) rfl rfl with ⟨g2, h2⟩ | ⟨g2, h2⟩
        · rw [g, g2]; rfl
        · omega
theorem q_sine (r : Rel s T I J P) (p : Int32) : ∃ v, F_X11_sine p = some v ∧ F_X12_sine I p = some v := by
  unfold F_X11_sine F_X12_sine
  rcases in0 p 0 35 (a := 0) (b := 35) rfl rfl with ⟨g, h⟩ | ⟨g, h⟩
  · refine ⟨-1, ?_, by rw [g]; rfl⟩
    simp only [Int32.lt_iff_toInt_lt, Int32.reduceToInt]
    by_cases a1 : p.toInt < 0
    · rw [if_pos a1]
    · rw [if_neg a1, if_neg (by omega)]
  · have hp := of_nat (p := p) h.1
    rw [g, hp, x_sine _ (by omega), m_sine r.sin (by omega)]
    refine ⟨_, ?_, rfl⟩
    rw [← hp]
    simp only [Int32.lt_iff_toInt_lt, Int32.reduceToInt]
    rw [if_neg (by omega), if_pos (by omega)]
    rfl
theorem q_seed (r : Rel s T I J P) (p : Int32) : ∃ v I1 I2, F_X11_seed I p = some (v, I1) ∧ F_X12_seed I1 p = some (v, I2) ∧ Rel s T I2 J P := by
  obtain ⟨n, hC, hz, hL, hH, hA⟩ := r.now
  refine ⟨I 65 5, up2 I 65 5 p, up2 (up2 I 65 5 p) 101 5 p, rfl, ?_, ?_⟩
  · unfold F_X12_seed
    rw [hz]
    rfl
  · have f : Fr [65] [] [] [5] [] I (up2 (up2 I 65 5 p) 101 5 p) J J P P := ⟨fun x hx h2 _ => by
        simp only [List.mem_cons, List.not_mem_nil, or_false] at hx
        rw [up2_oth _ _ _ h2, up2_oth _ _ _ hx], fun j hj => by
        simp only [List.mem_cons, List.not_mem_nil, or_false] at hj
        simp [up2, hj], fun j _ => rfl, fun _ _ => rfl, fun _ _ => rfl⟩
    refine ⟨r.t60, fr_sin r.sin f (by decide), fr_shp r.shp f (by decide), ?_, fr_kept r.kept f (by decide), fr_tape r.tape f (by decide), fr_rows r.rows f (by decide), fr_sh r.sh f (by decide), fr_shf r.shf f (by decide), fr_tr r.tr f (by decide)⟩
    exact ⟨n, CR.fr hC (f.cells (by decide)), rfl, hL, hH, hA⟩
theorem q_many {N : Nat} (hN : 5 < N) (r : Rel s T I J P) (p : Int32) : ∃ v, F_X11_many N I p = some v ∧ F_X12_many N I p = some v := by
  obtain ⟨n, hC, hz, hL, hH, hA⟩ := r.now
  obtain ⟨n1, h1, t1, t2, -⟩ := r.tape
  obtain ⟨n2, h2, t3, t4, -⟩ := r.rows
  obtain ⟨n3, h3, t5, t6, -⟩ := r.tr
  unfold F_X11_many F_X12_many
  rw [x_sum hN, m_sum hN, hC.2.1, hC.2.2.1, t1, t2, t3, t4, t5, t6, hH.sum]
  have key : ∀ o : Option Int32, (∃ x, o = some x) → ∃ v, o = some v ∧ o = some v := fun o ⟨x, h⟩ => ⟨x, h, h⟩
  apply key
  repeat' split
  all_goals exact ⟨_, rfl⟩
theorem q_trace (r : Rel s T I J P) (p : Int32) : ∃ v, F_X11_trace I p = some v ∧ F_X12_trace I p = some v := by
  obtain ⟨n, h30, t5, t6, hj⟩ := r.tr
  unfold F_X11_trace F_X12_trace
  have hs : (I 101 48 - 1).toInt = (n : Int) - 1 := by rw [t6]; exact nI_sub1 (by omega)
  have hn : (I 82 1).toInt = n := by rw [t5]; exact nI_toInt (by omega)
  rcases in0 p 0 (I 101 48 - 1) (a := 0) (b := (n : Int) - 1) rfl hs with ⟨g, h⟩ | ⟨g, h⟩
  · refine ⟨-3, ?_, by rw [g]; rfl⟩
    simp only [Int32.lt_iff_toInt_lt, Int32.reduceToInt, hn]
    by_cases a1 : p.toInt < 0
    · rw [if_pos a1]
    · rw [if_neg a1, if_neg (by omega)]
  · have ib : inb p 30 = true := inbT h.1 (by omega)
    refine ⟨I 121 p.toInt.toNat, ?_, by rw [g, if_neg (by decide), if_pos ib]; rfl⟩
    simp only [Int32.lt_iff_toInt_lt, Int32.reduceToInt, hn]
    rw [if_neg (by omega), if_pos (by omega), if_pos ib, clampT, hj _ (by omega)]
theorem row_idx : ∀ i, i < 20 → ∀ w, w < 3 → inb ((nI i * 3) + nI w) 60 = true ∧ ((nI i * 3) + nI w).toNatClampNeg = 3 * i + w ∧ (3 * nI i) + nI w = (nI i * 3) + nI w := by decide +kernel
theorem row_cases {n : Nat} (hn : n ≤ 20) (h1 : I 64 11 = nI n) (h2 : I 101 36 = nI n) (p1 p2 : Int32) : (F_X11_isRowPart I p1 p2 = 0 ∧ ∀ I1 : IM, I1 101 36 = I 101 36 → F_X12_isRow I1 p1 p2 = 0) ∨ (F_X11_isRowPart I p1 p2 = 1 ∧ (∀ I1 : IM, I1 101 36 = I 101 36 → F_X12_isRow I1 p1 p2 = 1) ∧ ∃ i w, i < n ∧ w < 3 ∧ p1 = nI i ∧ p2 = nI w) := by
  have hs : (I 101 36 - 1).toInt = (n : Int) - 1 := by rw [h2]; exact nI_sub1 (by omega)
  have hq : (I 64 11).toInt = n := by rw [h1]; exact nI_toInt (by omega)
  unfold F_X11_isRowPart F_X12_isRow
  simp only [Int32.lt_iff_toInt_lt, Int32.le_iff_toInt_le, Int32.reduceToInt, hq]
  rcases in0 p1 0 (I 101 36 - 1) (a := 0) (b := (n : Int) - 1) rfl hs with ⟨g, h⟩ | ⟨g, h⟩
  · left
    refine ⟨?_, fun I1 e => by rw [e, g]; rfl⟩
    by_cases a1 : p1.toInt < 0
    · rw [if_pos a1]
    · rw [if_neg a1, if_pos (by omega)]
  · rcases in0 p2 0 2 (a := 0) (b := 2) rfl rfl with ⟨g2, h2⟩ | ⟨g2, h2⟩
    · left
      refine ⟨?_, fun I1 e => by rw [e, g, g2]; rfl⟩
      rw [if_neg (by omega), if_neg (by omega)]
      by_cases a1 : p2.toInt < 0
      · rw [if_pos a1]
      · rw [if_neg a1, if_pos (by omega)]
    · right
      refine ⟨?_, fun I1 e => by rw [e, g, g2]; rfl, p1.toInt.toNat, p2.toInt.toNat, by omega, by omega, of_nat h.1, of_nat h2.1⟩
      rw [if_neg (by omega), if_neg (by omega), if_neg (by omega), if_neg (by omega)]
theorem q_row (r : Rel s T I J P) (p1 p2 : Int32) : ∃ v, F_X11_row I p1 p2 = some v ∧ F_X12_row I p1 p2 = some v := by
  obtain ⟨n, hn, h1, h2, hj⟩ := r.rows
  unfold F_X11_row F_X12_row
  rcases row_cases hn h1 h2 p1 p2 with ⟨g1, g2⟩ | ⟨g1, g2, i, w, hi, hw, rfl, rfl⟩
  · rw [g1, g2 I rfl]; exact ⟨_, rfl, rfl⟩
  · obtain ⟨x1, x2, x3⟩ := row_idx i (by omega) w hw
    rw [g1, g2 I rfl]
    refine ⟨I 113 (3 * i + w), ?_, ?_⟩
    · rw [if_neg (by decide), if_pos x1, x2, hj _ (by omega)]
    · rw [if_neg (by decide), x3, if_pos x1, x2]
theorem q_alterRow (r : Rel s T I J P) (p1 p2 p3 : Int32) : ∃ v I1 I2, F_X11_alterRow I p1 p2 p3 = some (v, I1) ∧ F_X12_alterRow I1 p1 p2 p3 = some (v, I2) ∧ Rel s T I2 J P := by
  obtain ⟨n, hn, h1, h2, hj⟩ := r.rows
  unfold F_X11_alterRow F_X12_alterRow
  rcases row_cases hn h1 h2 p1 p2 with ⟨g1, g2⟩ | ⟨g1, g2, i, w, hi, hw, rfl, rfl⟩
  · rw [g1]; exact ⟨_, _, _, rfl, by rw [g2 I rfl]; rfl, r⟩
  · obtain ⟨x1, x2, x3⟩ := row_idx i (by omega) w hw
    refine ⟨I 88 (3 * i + w), up2 I 88 (3 * i + w) p3, up2 (up2 I 88 (3 * i + w) p3) 113 (3 * i + w) p3, ?_, ?_, ?_⟩
    · rw [g1, if_neg (by decide), if_pos x1, x2]
      simp only [letb]
      rw [if_pos x1]
    · rw [g2 (up2 I 88 (3 * i + w) p3) rfl, if_neg (by decide), x3, if_pos x1, x2]
      simp only [letb]
      rw [if_pos x1, hj _ (by omega)]
      rfl
    · have f : Fr [88, 113] [] [] [] [] I (up2 (up2 I 88 (3 * i + w) p3) 113 (3 * i + w) p3) J J P P := ⟨fun x hx _ _ => by
          simp only [List.mem_cons, List.not_mem_nil, or_false, not_or] at hx
          rw [up2_oth _ _ _ hx.2, up2_oth _ _ _ hx.1], fun j _ => rfl, fun j _ => rfl, fun _ _ => rfl, fun _ _ => rfl⟩
      refine ⟨r.t60, fr_sin r.sin f (by decide), fr_shp r.shp f (by decide), fr_now r.now f (by decide), fr_kept r.kept f (by decide), fr_tape r.tape f (by decide), ?_, fr_sh r.sh f (by decide), fr_shf r.shf f (by decide), fr_tr r.tr f (by decide)⟩
      refine ⟨n, hn, h1, h2, fun j hjn => ?_⟩
      rw [up2_oth _ _ _ (by decide), up2_row, up2_row]
      show (if _ then _ else _) = if _ then _ else _
      split
      · rfl
      · rw [up2_oth _ _ _ (by decide)]; exact hj j hjn
end
