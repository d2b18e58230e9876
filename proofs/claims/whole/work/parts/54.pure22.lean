/-! keep and again -/
section
variable {s : Nat} {T : TM} {I I' : IM} {J : JM} {P P' : PM}
theorem cpy_at {α : Type} {f g : Nat → α} {n j : Nat} (h : j < n) : va_cpy f g 0 0 n j = f j := by
  unfold va_cpy
  rw [if_pos ⟨by omega, by omega⟩]
  simp
theorem x_copyW {w v : Nat} (hd : w + 5 ≤ v ∨ v + 5 ≤ w) (hF : fOk T (P (v + 1)) 6 = true) : ∃ I' P', F_X10_copyFrom T I P w v = some (I', P') ∧ I' w 1 = I v 1 ∧ I' w 5 = I v 5 ∧ (∀ j, j < 6 → I' (w + 2) j = I (v + 2) j) ∧ (∀ j, j < 5 → I' (w + 3) j = I (v + 3) j) ∧ (∀ i, 1 ≤ i → i ≤ 10 → I' (w + 4) i = I (v + 4) i) ∧ P' (w + 4) 0 = P (v + 4) 0 ∧ (∀ j, j < 6 → P' (w + 1) j = P (v + 1) j) ∧ (∀ x, x ≠ w → x ≠ w + 2 → x ≠ w + 3 → x ≠ w + 4 → I' x = I x) ∧ ∀ x, x ≠ w + 1 → x ≠ w + 4 → P' x = P x := by
  unfold F_X10_copyFrom
  rw [if_pos hF]
  simp only [letb]
  generalize hP2 : va_up P (w + 1) (va_cpy (P (v + 1)) (P (w + 1)) 0 0 6) = P2
  generalize hI3 : up2 I w 1 (I v 1) = I3
  generalize hI4 : va_up I3 (w + 2) (va_cpy (I3 (v + 2)) (I3 (w + 2)) 0 0 6) = I4
  generalize hI5 : va_up I4 (w + 3) (va_cpy (I4 (v + 3)) (I4 (w + 3)) 0 0 5) = I5
  have p2 : (∀ j, j < 6 → P2 (w + 1) j = P (v + 1) j) ∧ ∀ x, x ≠ w + 1 → P2 x = P x := by
    subst hP2
    exact ⟨fun j hj => by rw [va_up_self, cpy_at hj], fun x hx => va_up_ne _ _ hx⟩
  have i3 : I3 w 1 = I v 1 ∧ ∀ x, x ≠ w → I3 x = I x := by
    subst hI3
    exact ⟨up2_s _ _ _ _, fun x hx => up2_oth _ _ _ hx⟩
  have i4 : (∀ j, j < 6 → I4 (w + 2) j = I3 (v + 2) j) ∧ ∀ x, x ≠ w + 2 → I4 x = I3 x := by
    subst hI4
    exact ⟨fun j hj => by rw [va_up_self, cpy_at hj], fun x hx => va_up_ne _ _ hx⟩
  have i5 : (∀ j, j < 5 → I5 (w + 3) j = I4 (v + 3) j) ∧ ∀ x, x ≠ w + 3 → I5 x = I4 x := by
    subst hI5
    exact ⟨fun j hj => by rw [va_up_self, cpy_at hj], fun x hx => va_up_ne _ _ hx⟩
  obtain ⟨I6, e6, f6, g6⟩ := x_copyF I5 P2 (a := w + 4) (b := v + 4) (by omega)
  rw [e6]
  simp only [Option.bind_some]
  refine ⟨_, _, rfl, ?_, ?_, fun j hj => ?_, fun j hj => ?_, fun i h1 h2 => ?_, ?_, fun j hj => ?_, fun x h1 h2 h3 h4 => ?_, fun x h1 h2 => ?_⟩
  · rw [up2_n _ _ (by omega), f6 w (by omega), i5.2 w (by omega), i4.2 w (by omega)]
    exact i3.1
  · rw [up2_s, f6 v (by omega), i5.2 v (by omega), i4.2 v (by omega), i3.2 v (by omega)]
  · rw [up2_oth _ _ _ (by omega), f6 _ (by omega), i5.2 _ (by omega), i4.1 j hj, i3.2 _ (by omega)]
  · rw [up2_oth _ _ _ (by omega), f6 _ (by omega), i5.1 j hj, i4.2 _ (by omega), i3.2 _ (by omega)]
  · rw [up2_oth _ _ _ (by omega), g6 i h1 h2, i5.2 _ (by omega), i4.2 _ (by omega), i3.2 _ (by omega)]
  · rw [up2_s, p2.2 _ (by omega)]
  · rw [up2_oth _ _ _ (by omega), p2.1 j hj]
  · rw [up2_oth _ _ _ h1, f6 x h4, i5.2 x h3, i4.2 x h2, i3.2 x h1]
  · rw [up2_oth _ _ _ h2, p2.2 x h1]
theorem fOk_cg {th th2 : Nat → Option Nat} (h : fOk T th 6 = true) (e : ∀ j, j < 6 → th2 j = th j) : fOk T th2 6 = true := by
  have : fOk T th2 6 = fOk T th 6 := by
    unfold fOk
    simp only [List.range_succ, List.range_zero, List.nil_append, List.all_append, List.all_cons, List.all_nil, e 0 (by decide), e 1 (by decide), e 2 (by decide), e 3 (by decide), e 4 (by decide), e 5 (by decide)]
  rw [this]
  exact h
theorem WR.cg {B : Nat} {th th2 : Nat → Option Nat} {cnt z cnt2 z2 : Int32} {L H A L2 H2 A2 : Nat → Int32} {pa pa2 : Option Nat} {cnt' z' cnt2' z2' : Int32} {C L' H' A' C2 L2' H2' A2' : Nat → Int32} (h : WR B T I th cnt z L H A pa cnt' z' C L' H' A') (e1 : ∀ j, j < 6 → th2 j = th j) (e2 : cnt2 = cnt) (e3 : z2 = z) (e4 : ∀ j, j < 6 → L2 j = L j) (e5 : ∀ j, j < 5 → H2 j = H j) (e6 : ∀ i, 1 ≤ i → i ≤ 10 → A2 i = A i) (e7 : pa2 = pa) (e8 : cnt2' = cnt') (e9 : z2' = z') (e10 : ∀ j, j < 24 → C2 j = C j) (e11 : ∀ j, j < 6 → L2' j = L' j) (e12 : ∀ j, j < 5 → H2' j = H' j) (e13 : ∀ j, j < 8 → A2' j = A' j) : WR B T I th2 cnt2 z2 L2 H2 A2 pa2 cnt2' z2' C2 L2' H2' A2' := by
  obtain ⟨n, hC, hz, hL, hH, hA⟩ := h
  subst e2 e3 e7 e8 e9
  obtain ⟨c1, c2, c3, c4, c5⟩ := hC
  refine ⟨n, ⟨c1, c2, c3, fun j hj => ?_, fOk_cg c5 e1⟩, hz, fun j hj => ?_, ⟨fun j hj => ?_, ?_⟩, ?_⟩
  · obtain ⟨c, a, b⟩ := c4 j hj
    refine ⟨c, by rw [e1 j (by omega)]; exact a, ?_⟩
    rw [e10 _ (by omega), e10 _ (by omega), e10 _ (by omega), e10 _ (by omega)]
    exact b
  · rw [e4 j hj, e11 j hj]; exact hL j hj
  · rw [e5 j hj, e12 j hj]; exact hH.1 j hj
  · rw [e5 0 (by decide), e5 1 (by decide), e5 2 (by decide), e5 3 (by decide), e5 4 (by decide)]; exact hH.2
  · rcases hA with ⟨a1, a2⟩ | ⟨c, j, m, a1, a2, a3, a4, a5, a6, a7, a8⟩
    · exact Or.inl ⟨a1, by rw [e13 0 (by decide)]; exact a2⟩
    · refine Or.inr ⟨c, j, m, a1, a2, by rw [e1 j (by omega)]; exact a3, by rw [e13 0 (by decide)]; exact a4, ?_, fun k k1 k2 => ?_, a7, ?_⟩
      · rw [e6 1 (by decide) (by decide), e10 _ (by omega)]; exact a5
      · rw [e6 _ (by omega) (by omega), e13 _ (by omega)]; exact a6 k k1 k2
      · exact VF.congr (fun i h1 h2 => (e6 i (by omega) h2).symm) a8
theorem m_mvK {N b lb n : Nat} (hb : b ≠ 101) (hb2 : b ≠ 122) (hn : n ≤ lb) (hl : lb < 100) : ∀ (m i k : Nat) (I : IM), I 101 52 = nI k → i + m = n → k + m ≤ 60 → ∀ f, m < f → ∃ I', G_X12_move_3 N b lb (nI n) 1 f (nI i) I = some I' ∧ (∀ x, x ≠ 101 → x ≠ 122 → I' x = I x) ∧ (∀ y, y ≠ 52 → I' 101 y = I 101 y) ∧ I' 101 52 = nI (k + m) ∧ (∀ j, j < m → I' 122 (k + j) = I b (i + j)) ∧ ∀ y, y < k ∨ k + m ≤ y → I' 122 y = I 122 y := by
  intro m
  induction m with
  | zero =>
    intro i k I hk hi h60 f hf
    obtain ⟨f, rfl⟩ : ∃ g, f = g + 1 := ⟨f - 1, by omega⟩
    refine ⟨I, ?_, fun _ _ _ => rfl, fun _ _ => rfl, hk, fun j hj => by omega, fun _ _ => rfl⟩
    rw [G_X12_move_3, if_pos (nI_le (by omega) (by omega))]
  | succ m ih =>
    intro i k I hk hi h60 f hf
    obtain ⟨f, rfl⟩ : ∃ g, f = g + 1 := ⟨f - 1, by omega⟩
    obtain ⟨I1, e, f1, f2, f3, f4, f5⟩ := ih (i + 1) (k + 1) (up2 (up2 I 122 k (I b i)) 101 52 (nI (k + 1))) (up2_s _ _ _ _) (by omega) (by omega) f (by omega)
    refine ⟨I1, ?_, fun x h1 h2 => by rw [f1 x h1 h2, up2_oth _ _ _ h1, up2_oth _ _ _ h2], fun y hy => by rw [f2 y hy, up2_n _ _ (by omega), up2_oth _ _ _ (by decide)], by rw [f3]; congr 1; omega, fun j hj => ?_, fun y hy => ?_⟩
    · rw [G_X12_move_3, if_neg (nI_ge (by omega) (by omega)), if_neg n10, if_pos (inbN (by omega) (by omega)), hk, if_pos (inbN (by omega) (by decide)), nI_clamp (by omega), nI_clamp (by omega)]
      simp only [letb]
      rw [up2_oth _ _ _ (show 101 ≠ 122 by decide), hk, nI_1, nI_1]
      exact e
    · by_cases q : j = 0
      · subst q
        rw [f5 _ (by omega), up2_oth _ _ _ (by decide), Nat.add_zero, up2_s, Nat.add_zero]
      · have := f4 (j - 1) (by omega)
        rw [show k + 1 + (j - 1) = k + j by omega, show i + 1 + (j - 1) = i + j by omega] at this
        rw [this, up2_oth _ _ _ hb, up2_oth _ _ _ hb2]
    · rw [f5 y (by omega), up2_oth _ _ _ (by decide), up2_n _ _ (by omega)]
theorem m_mvA {N b lb n : Nat} (hb : b ≠ 101) (hb2 : b ≠ 122) (hn : n ≤ lb) (hl : lb < 100) : ∀ (m i k : Nat) (I : IM), I 101 52 = nI k → i + m = n → k + m ≤ 60 → ∀ f, m < f → ∃ I', G_X12_move_3 N b lb (nI n) 0 f (nI i) I = some I' ∧ (∀ x, x ≠ 101 → x ≠ b → I' x = I x) ∧ (∀ y, y ≠ 52 → I' 101 y = I 101 y) ∧ I' 101 52 = nI (k + m) ∧ (∀ j, j < m → I' b (i + j) = I 122 (k + j)) ∧ ∀ y, y < i → I' b y = I b y := by
  intro m
  induction m with
  | zero =>
    intro i k I hk hi h60 f hf
    obtain ⟨f, rfl⟩ : ∃ g, f = g + 1 := ⟨f - 1, by omega⟩
    refine ⟨I, ?_, fun _ _ _ => rfl, fun _ _ => rfl, hk, fun j hj => by omega, fun _ _ => rfl⟩
    rw [G_X12_move_3, if_pos (nI_le (by omega) (by omega))]
  | succ m ih =>
    intro i k I hk hi h60 f hf
    obtain ⟨f, rfl⟩ : ∃ g, f = g + 1 := ⟨f - 1, by omega⟩
    obtain ⟨I1, e, f1, f2, f3, f4, f5⟩ := ih (i + 1) (k + 1) (up2 (up2 I b i (I 122 k)) 101 52 (nI (k + 1))) (up2_s _ _ _ _) (by omega) (by omega) f (by omega)
    refine ⟨I1, ?_, fun x h1 h2 => by rw [f1 x h1 h2, up2_oth _ _ _ h1, up2_oth _ _ _ h2], fun y hy => by rw [f2 y hy, up2_n _ _ (by omega), up2_oth _ _ _ (Ne.symm hb)], by rw [f3]; congr 1; omega, fun j hj => ?_, fun y hy => ?_⟩
    · rw [G_X12_move_3, if_neg (nI_ge (by omega) (by omega)), if_pos rfl, hk, if_pos (inbN (by omega) (by decide)), if_pos (inbN (by omega) (by omega)), nI_clamp (by omega), nI_clamp (by omega)]
      simp only [letb]
      rw [up2_oth _ _ _ (Ne.symm hb), hk, nI_1, nI_1]
      exact e
    · by_cases q : j = 0
      · subst q
        rw [f5 _ (by omega), up2_oth _ _ _ hb, Nat.add_zero, up2_s, Nat.add_zero]
      · have := f4 (j - 1) (by omega)
        rw [show k + 1 + (j - 1) = k + j by omega, show i + 1 + (j - 1) = i + j by omega] at this
        rw [this, up2_oth _ _ _ (by decide), up2_oth _ _ _ (Ne.symm hb2)]
    · rw [f5 y (by omega), up2_oth _ _ _ hb, up2_n _ _ (by omega)]
theorem m_allK {N : Nat} (hN : 60 < N) (I : IM) : ∃ I', F_X12_moveAll N I 1 = some I' ∧ (∀ x, x ≠ 101 → x ≠ 122 → x ≠ 123 → I' x = I x) ∧ (∀ y, y ≠ 52 → I' 101 y = I 101 y) ∧ I' 122 0 = I 101 0 ∧ I' 122 1 = I 101 5 ∧ (∀ j, j < 24 → I' 122 (j + 2) = I 102 j) ∧ (∀ j, j < 6 → I' 122 (j + 26) = I 103 j) ∧ (∀ j, j < 5 → I' 122 (j + 32) = I 104 j) ∧ ∀ j, j < 8 → I' 122 (j + 37) = I 106 j := by
  unfold F_X12_moveAll F_X12_move
  simp only [letb]
  generalize hI3 : up2 (up2 (up2 I 101 52 0) 123 0 (up2 I 101 52 0 101 0)) 123 1 (up2 (up2 I 101 52 0) 123 0 (up2 I 101 52 0 101 0) 101 5) = I3
  have i3 : (∀ x, x ≠ 101 → x ≠ 123 → I3 x = I x) ∧ (∀ y, y ≠ 52 → I3 101 y = I 101 y) ∧ I3 101 52 = nI 0 ∧ I3 123 0 = I 101 0 ∧ I3 123 1 = I 101 5 := by
    subst hI3
    refine ⟨fun x h1 h2 => by rw [up2_oth _ _ _ h2, up2_oth _ _ _ h2, up2_oth _ _ _ h1], fun y hy => by rw [up2_oth _ _ _ (by decide), up2_oth _ _ _ (by decide), up2_n _ _ (by omega)], rfl, rfl, rfl⟩
  obtain ⟨a1, a2, a3, a4, a5⟩ := i3
  obtain ⟨I4, e4, b1, b2, b3, b4, b5⟩ := m_mvK (N := N) (b := 123) (lb := 2) (n := 2) (by decide) (by decide) (by decide) (by decide) 2 0 0 I3 a3 rfl (by decide) N (by omega)
  rw [show (2 : Int32) = nI 2 from rfl, show (0 : Int32) = nI 0 from rfl, e4]
  simp only [Option.bind_some]
  obtain ⟨I5, e5, c1, c2, c3, c4, c5⟩ := m_mvK (N := N) (b := 102) (lb := 24) (n := 24) (by decide) (by decide) (by decide) (by decide) 24 0 2 I4 b3 rfl (by decide) N (by omega)
  rw [show (24 : Int32) = nI 24 from rfl, e5]
  simp only [Option.bind_some]
  obtain ⟨I6, e6, d1, d2, d3, d4, d5⟩ := m_mvK (N := N) (b := 103) (lb := 6) (n := 6) (by decide) (by decide) (by decide) (by decide) 6 0 26 I5 c3 rfl (by decide) N (by omega)
  rw [show (6 : Int32) = nI 6 from rfl, e6]
  simp only [Option.bind_some]
  obtain ⟨I7, e7, g1, g2, g3, g4, g5⟩ := m_mvK (N := N) (b := 104) (lb := 5) (n := 5) (by decide) (by decide) (by decide) (by decide) 5 0 32 I6 d3 rfl (by decide) N (by omega)
  rw [show (5 : Int32) = nI 5 from rfl, e7]
  simp only [Option.bind_some]
  obtain ⟨I8, e8, h1, h2, h3, h4, h5⟩ := m_mvK (N := N) (b := 106) (lb := 8) (n := 8) (by decide) (by decide) (by decide) (by decide) 8 0 37 I7 g3 rfl (by decide) N (by omega)
  rw [show (8 : Int32) = nI 8 from rfl, e8]
  refine ⟨I8, rfl, fun x x1 x2 x3 => ?_, fun y hy => ?_, ?_, ?_, fun j hj => ?_, fun j hj => ?_, fun j hj => ?_, fun j hj => ?_⟩
  · rw [h1 x x1 x2, g1 x x1 x2, d1 x x1 x2, c1 x x1 x2, b1 x x1 x2, a1 x x1 x3]
  · rw [h2 y hy, g2 y hy, d2 y hy, c2 y hy, b2 y hy, a2 y hy]
  · rw [h5 0 (by omega), g5 0 (by omega), d5 0 (by omega), c5 0 (by omega)]
    exact (b4 0 (by decide)).trans a4
  · rw [h5 1 (by omega), g5 1 (by omega), d5 1 (by omega), c5 1 (by omega)]
    exact (b4 1 (by decide)).trans a5
  · have := c4 j hj
    rw [h5 _ (by omega), g5 _ (by omega), d5 _ (by omega), Nat.add_comm j 2, this, Nat.zero_add, b1 102 (by decide) (by decide), a1 102 (by decide) (by decide)]
  · have := d4 j hj
    rw [h5 _ (by omega), g5 _ (by omega), Nat.add_comm j 26, this, Nat.zero_add, c1 103 (by decide) (by decide), b1 103 (by decide) (by decide), a1 103 (by decide) (by decide)]
  · have := g4 j hj
    rw [h5 _ (by omega), Nat.add_comm j 32, this, Nat.zero_add, d1 104 (by decide) (by decide), c1 104 (by decide) (by decide), b1 104 (by decide) (by decide), a1 104 (by decide) (by decide)]
  · have := h4 j hj
    rw [Nat.add_comm j 37, this, Nat.zero_add, g1 106 (by decide) (by decide), d1 106 (by decide) (by decide), c1 106 (by decide) (by decide), b1 106 (by decide) (by decide), a1 106 (by decide) (by decide)]
theorem m_allA {N : Nat} (hN : 60 < N) (I : IM) : ∃ I', F_X12_moveAll N I 0 = some I' ∧ (∀ x, x ≠ 101 → x ≠ 102 → x ≠ 103 → x ≠ 104 → x ≠ 106 → x ≠ 123 → I' x = I x) ∧ (∀ y, y ≠ 52 → I' 101 y = I 101 y) ∧ I' 123 0 = I 122 0 ∧ I' 123 1 = I 122 1 ∧ (∀ j, j < 24 → I' 102 j = I 122 (j + 2)) ∧ (∀ j, j < 6 → I' 103 j = I 122 (j + 26)) ∧ (∀ j, j < 5 → I' 104 j = I 122 (j + 32)) ∧ ∀ j, j < 8 → I' 106 j = I 122 (j + 37) := by
  unfold F_X12_moveAll F_X12_move
  simp only [letb]
  generalize hI3 : up2 (up2 (up2 I 101 52 0) 123 0 (up2 I 101 52 0 101 0)) 123 1 (up2 (up2 I 101 52 0) 123 0 (up2 I 101 52 0 101 0) 101 5) = I3
  have i3 : (∀ x, x ≠ 101 → x ≠ 123 → I3 x = I x) ∧ (∀ y, y ≠ 52 → I3 101 y = I 101 y) ∧ I3 101 52 = nI 0 := by
    subst hI3
    refine ⟨fun x h1 h2 => by rw [up2_oth _ _ _ h2, up2_oth _ _ _ h2, up2_oth _ _ _ h1], fun y hy => by rw [up2_oth _ _ _ (by decide), up2_oth _ _ _ (by decide), up2_n _ _ (by omega)], rfl⟩
  obtain ⟨a1, a2, a3⟩ := i3
  obtain ⟨I4, e4, b1, b2, b3, b4, b5⟩ := m_mvA (N := N) (b := 123) (lb := 2) (n := 2) (by decide) (by decide) (by decide) (by decide) 2 0 0 I3 a3 rfl (by decide) N (by omega)
  have e4' : G_X12_move_3 N 123 2 2 0 N 0 I3 = some I4 := e4
  rw [e4']
  simp only [Option.bind_some]
  obtain ⟨I5, e5, c1, c2, c3, c4, c5⟩ := m_mvA (N := N) (b := 102) (lb := 24) (n := 24) (by decide) (by decide) (by decide) (by decide) 24 0 2 I4 b3 rfl (by decide) N (by omega)
  have e5' : G_X12_move_3 N 102 24 24 0 N 0 I4 = some I5 := e5
  rw [e5']
  simp only [Option.bind_some]
  obtain ⟨I6, e6, d1, d2, d3, d4, d5⟩ := m_mvA (N := N) (b := 103) (lb := 6) (n := 6) (by decide) (by decide) (by decide) (by decide) 6 0 26 I5 c3 rfl (by decide) N (by omega)
  have e6' : G_X12_move_3 N 103 6 6 0 N 0 I5 = some I6 := e6
  rw [e6']
  simp only [Option.bind_some]
  obtain ⟨I7, e7, g1, g2, g3, g4, g5⟩ := m_mvA (N := N) (b := 104) (lb := 5) (n := 5) (by decide) (by decide) (by decide) (by decide) 5 0 32 I6 d3 rfl (by decide) N (by omega)
  have e7' : G_X12_move_3 N 104 5 5 0 N 0 I6 = some I7 := e7
  rw [e7']
  simp only [Option.bind_some]
  obtain ⟨I8, e8, h1, h2, h3, h4, h5⟩ := m_mvA (N := N) (b := 106) (lb := 8) (n := 8) (by decide) (by decide) (by decide) (by decide) 8 0 37 I7 g3 rfl (by decide) N (by omega)
  have e8' : G_X12_move_3 N 106 8 8 0 N 0 I7 = some I8 := e8
  rw [e8']
  refine ⟨I8, rfl, fun x x1 x2 x3 x4 x5 x6 => ?_, fun y hy => ?_, ?_, ?_, fun j hj => ?_, fun j hj => ?_, fun j hj => ?_, fun j hj => ?_⟩
  · rw [h1 x x1 x5, g1 x x1 x4, d1 x x1 x3, c1 x x1 x2, b1 x x1 x6, a1 x x1 x6]
  · rw [h2 y hy, g2 y hy, d2 y hy, c2 y hy, b2 y hy, a2 y hy]
  · rw [h1 123 (by decide) (by decide), g1 123 (by decide) (by decide), d1 123 (by decide) (by decide), c1 123 (by decide) (by decide)]
    exact (b4 0 (by decide)).trans (by rw [a1 122 (by decide) (by decide)])
  · rw [h1 123 (by decide) (by decide), g1 123 (by decide) (by decide), d1 123 (by decide) (by decide), c1 123 (by decide) (by decide)]
    exact (b4 1 (by decide)).trans (by rw [a1 122 (by decide) (by decide)])
  · have := c4 j hj
    rw [Nat.zero_add] at this
    rw [h1 102 (by decide) (by decide), g1 102 (by decide) (by decide), d1 102 (by decide) (by decide), this, b1 122 (by decide) (by decide), a1 122 (by decide) (by decide), Nat.add_comm]
  · have := d4 j hj
    rw [Nat.zero_add] at this
    rw [h1 103 (by decide) (by decide), g1 103 (by decide) (by decide), this, c1 122 (by decide) (by decide), b1 122 (by decide) (by decide), a1 122 (by decide) (by decide), Nat.add_comm]
  · have := g4 j hj
    rw [Nat.zero_add] at this
    rw [h1 104 (by decide) (by decide), this, d1 122 (by decide) (by decide), c1 122 (by decide) (by decide), b1 122 (by decide) (by decide), a1 122 (by decide) (by decide), Nat.add_comm]
  · have := h4 j hj
    rw [Nat.zero_add] at this
    rw [this, g1 122 (by decide) (by decide), d1 122 (by decide) (by decide), c1 122 (by decide) (by decide), b1 122 (by decide) (by decide), a1 122 (by decide) (by decide), Nat.add_comm]
theorem q_keep {N : Nat} (hN : 60 < N) (r : Rel s T I J P) : ∃ v I1 I2 P1, F_X11_keep T I P = some (v, I1, P1) ∧ F_X12_keep N I1 = some (v, I2) ∧ Rel s T I2 J P1 := by
  have hW : qNow s T I P := r.now
  have hF : fOk T (P 66) 6 = true := by
    obtain ⟨n, hC, -⟩ := r.now
    exact hC.2.2.2.2
  obtain ⟨I1, P1, e, c1, c2, c3, c4, c5, c6, c7, c8, c9⟩ := x_copyW (I := I) (w := 70) (v := 65) (by omega) hF
  obtain ⟨I2, e2, m1, m2, m3, m4, m5, m6, m7, m8⟩ := m_allK (N := N) hN (up2 I1 64 2 1)
  refine ⟨1, up2 I1 64 2 1, up2 I2 101 50 1, P1, ?_, ?_, ?_⟩
  · unfold F_X11_keep
    rw [e]
    rfl
  · unfold F_X12_keep
    rw [e2]
    rfl
  · have x1 : ∀ x, x ≠ 101 → x ≠ 122 → x ≠ 123 → x ≠ 64 → x ≠ 70 → x ≠ 72 → x ≠ 73 → x ≠ 74 → up2 I2 101 50 1 x = I x := fun x a b c d e f g h => by
      rw [up2_oth _ _ _ a, m1 x a b c, up2_oth _ _ _ d, c8 x e f g h]
    have y1 : ∀ x, x ≠ 101 → x ≠ 122 → x ≠ 123 → x ≠ 64 → up2 I2 101 50 1 x = I1 x := fun x a b c d => by
      rw [up2_oth _ _ _ a, m1 x a b c, up2_oth _ _ _ d]
    have x2 : ∀ y, y ≠ 50 → y ≠ 52 → up2 I2 101 50 1 101 y = I 101 y := fun y a b => by
      rw [up2_n _ _ (by omega), m2 y b, up2_oth _ _ _ (by decide), c8 101 (by decide) (by decide) (by decide) (by decide)]
    have x3 : ∀ y, y ≠ 2 → up2 I2 101 50 1 64 y = I 64 y := fun y a => by
      rw [up2_oth _ _ _ (by decide), m1 64 (by decide) (by decide) (by decide), up2_n _ _ (by omega), c8 64 (by decide) (by decide) (by decide) (by decide)]
    have f : Fr [70, 72, 73, 74, 122, 123] [71, 74] [] [50, 52] [2] I (up2 I2 101 50 1) J J P P1 := ⟨fun x hx ha hb => by
      simp only [List.mem_cons, List.not_mem_nil, or_false, not_or] at hx
      exact x1 x ha hx.2.2.2.2.1 hx.2.2.2.2.2 hb hx.1 hx.2.1 hx.2.2.1 hx.2.2.2.1, fun y hy => by
      simp only [List.mem_cons, List.not_mem_nil, or_false, not_or] at hy
      exact x2 y hy.1 hy.2, fun y hy => by
      simp only [List.mem_cons, List.not_mem_nil, or_false] at hy
      exact x3 y hy, fun x hx => by
      simp only [List.mem_cons, List.not_mem_nil, or_false, not_or] at hx
      exact c9 x hx.1 hx.2, fun _ _ => rfl⟩
    refine ⟨r.t60, fr_sin r.sin f (by decide), fr_shp r.shp f (by decide), fr_now r.now f (by decide), ?_, fr_tape r.tape f (by decide), fr_rows r.rows f (by decide), fr_sh r.sh f (by decide), fr_shf r.shf f (by decide), fr_tr r.tr f (by decide)⟩
    refine Or.inr ⟨?_, up2_s _ _ _ _, ?_⟩
    · rw [up2_oth _ _ _ (by decide), m1 64 (by decide) (by decide) (by decide), up2_s]
    · have z : ∀ x, x ≠ 64 → x ≠ 70 → x ≠ 72 → x ≠ 73 → x ≠ 74 → up2 I1 64 2 1 x = I x := fun x a b c d e => by rw [up2_oth _ _ _ a, c8 x b c d e]
      refine WR.cg (WR.cells hW (f.cells (by decide))) c7 ?_ ?_ ?_ ?_ ?_ c6 ?_ ?_ ?_ ?_ ?_ ?_
      · rw [y1 70 (by decide) (by decide) (by decide) (by decide)]; exact c1
      · rw [y1 70 (by decide) (by decide) (by decide) (by decide)]; exact c2
      · intro j hj; rw [y1 72 (by decide) (by decide) (by decide) (by decide)]; exact c3 j hj
      · intro j hj; rw [y1 73 (by decide) (by decide) (by decide) (by decide)]; exact c4 j hj
      · intro j h1 h2; rw [y1 74 (by decide) (by decide) (by decide) (by decide)]; exact c5 j h1 h2
      · rw [up2_oth _ _ _ (by decide), m3, z 101 (by decide) (by decide) (by decide) (by decide) (by decide)]
      · rw [up2_oth _ _ _ (by decide), m4, z 101 (by decide) (by decide) (by decide) (by decide) (by decide)]
      · intro j hj; rw [up2_oth _ _ _ (by decide), m5 j hj, z 102 (by decide) (by decide) (by decide) (by decide) (by decide)]
      · intro j hj; rw [up2_oth _ _ _ (by decide), m6 j hj, z 103 (by decide) (by decide) (by decide) (by decide) (by decide)]
      · intro j hj; rw [up2_oth _ _ _ (by decide), m7 j hj, z 104 (by decide) (by decide) (by decide) (by decide) (by decide)]
      · intro j hj; rw [up2_oth _ _ _ (by decide), m8 j hj, z 106 (by decide) (by decide) (by decide) (by decide) (by decide)]
theorem q_again {N : Nat} (hN : 60 < N) (r : Rel s T I J P) : ∃ v I1 I2 P1, F_X11_again T I P = some (v, I1, P1) ∧ F_X12_again N I1 = some (v, I2) ∧ Rel s T I2 J P1 := by
  rcases r.kept with ⟨k1, k2⟩ | ⟨k1, k2, hW⟩
  · refine ⟨-3, I, I, P, ?_, ?_, r⟩
    · unfold F_X11_again; rw [k1]; rfl
    · unfold F_X12_again; rw [k2]; rfl
  · have hW0 := hW
    have hF : fOk T (P 71) 6 = true := by
      obtain ⟨n, hC, -⟩ := hW
      exact hC.2.2.2.2
    obtain ⟨I1, P1, e, c1, c2, c3, c4, c5, c6, c7, c8, c9⟩ := x_copyW (I := I) (w := 65) (v := 70) (by omega) hF
    obtain ⟨I2, e2, m1, m2, m3, m4, m5, m6, m7, m8⟩ := m_allA (N := N) hN I1
    have z : ∀ x, x ≠ 65 → x ≠ 67 → x ≠ 68 → x ≠ 69 → I1 x = I x := fun x a b c d => c8 x a b c d
    have ecnt : I1 65 1 = I1 122 0 := by
      obtain ⟨n, hC, -⟩ := hW
      rw [c1, z 122 (by decide) (by decide) (by decide) (by decide), hC.2.1, hC.2.2.1]
    refine ⟨I1 65 1, I1, up2 (up2 I2 101 0 (I2 123 0)) 101 5 (I2 123 1), P1, ?_, ?_, ?_⟩
    · unfold F_X11_again
      rw [k1, if_neg n10, e]
      rfl
    · unfold F_X12_again
      rw [z 101 (by decide) (by decide) (by decide) (by decide), k2, if_neg n10, e2]
      simp only [Option.bind_some, letb]
      rw [up2_oth _ _ _ (show 123 ≠ 101 by decide), up2_n _ _ (show ¬ (101 = 101 ∧ 0 = 5) by decide), up2_s, m3, ecnt]
    · generalize hI3 : up2 (up2 I2 101 0 (I2 123 0)) 101 5 (I2 123 1) = I3
      have i3 : (∀ x, x ≠ 101 → I3 x = I2 x) ∧ (∀ y, y ≠ 0 → y ≠ 5 → I3 101 y = I2 101 y) ∧ I3 101 0 = I2 123 0 ∧ I3 101 5 = I2 123 1 := by
        subst hI3
        exact ⟨fun x hx => by rw [up2_oth _ _ _ hx, up2_oth _ _ _ hx], fun y a b => by rw [up2_n _ _ (by omega), up2_n _ _ (by omega)], rfl, rfl⟩
      obtain ⟨i1, i2, i4, i5⟩ := i3
      have f : Fr [65, 67, 68, 69, 102, 103, 104, 106, 123] [66, 69] [] [0, 5, 52] [] I I3 J J P P1 := ⟨fun x hx ha hb => by
        simp only [List.mem_cons, List.not_mem_nil, or_false, not_or] at hx
        rw [i1 x ha, m1 x ha hx.2.2.2.2.1 hx.2.2.2.2.2.1 hx.2.2.2.2.2.2.1 hx.2.2.2.2.2.2.2.1 hx.2.2.2.2.2.2.2.2, z x hx.1 hx.2.1 hx.2.2.1 hx.2.2.2.1], fun y hy => by
        simp only [List.mem_cons, List.not_mem_nil, or_false, not_or] at hy
        rw [i2 y hy.1 hy.2.1, m2 y hy.2.2, z 101 (by decide) (by decide) (by decide) (by decide)], fun y hy => by
        rw [i1 64 (by decide), m1 64 (by decide) (by decide) (by decide) (by decide) (by decide) (by decide), z 64 (by decide) (by decide) (by decide) (by decide)], fun x hx => by
        simp only [List.mem_cons, List.not_mem_nil, or_false, not_or] at hx
        exact c9 x hx.1 hx.2, fun _ _ => rfl⟩
      refine ⟨r.t60, fr_sin r.sin f (by decide), fr_shp r.shp f (by decide), ?_, fr_kept r.kept f (by decide), fr_tape r.tape f (by decide), fr_rows r.rows f (by decide), fr_sh r.sh f (by decide), fr_shf r.shf f (by decide), fr_tr r.tr f (by decide)⟩
      have y1 : ∀ x, x ≠ 101 → x ≠ 102 → x ≠ 103 → x ≠ 104 → x ≠ 106 → x ≠ 123 → I3 x = I1 x := fun x a b c d e g => by rw [i1 x a, m1 x a b c d e g]
      have z122 : I1 122 = I 122 := z 122 (by decide) (by decide) (by decide) (by decide)
      refine WR.cg (WR.cells hW0 (f.cells (by decide))) c7 ?_ ?_ ?_ ?_ ?_ c6 ?_ ?_ ?_ ?_ ?_ ?_
      · rw [y1 65 (by decide) (by decide) (by decide) (by decide) (by decide) (by decide)]; exact c1
      · rw [y1 65 (by decide) (by decide) (by decide) (by decide) (by decide) (by decide)]; exact c2
      · intro j hj; rw [y1 67 (by decide) (by decide) (by decide) (by decide) (by decide) (by decide)]; exact c3 j hj
      · intro j hj; rw [y1 68 (by decide) (by decide) (by decide) (by decide) (by decide) (by decide)]; exact c4 j hj
      · intro j h1 h2; rw [y1 69 (by decide) (by decide) (by decide) (by decide) (by decide) (by decide)]; exact c5 j h1 h2
      · rw [i4, m3, z122]
      · rw [i5, m4, z122]
      · intro j hj; rw [i1 102 (by decide), m5 j hj, z122]
      · intro j hj; rw [i1 103 (by decide), m6 j hj, z122]
      · intro j hj; rw [i1 104 (by decide), m7 j hj, z122]
      · intro j hj; rw [i1 106 (by decide), m8 j hj, z122]
end
