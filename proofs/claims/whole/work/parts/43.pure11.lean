section
variable {s : Nat} {T : TM} {I : IM} {J : JM} {P : PM}
theorem x_copyF (I : IM) (P : PM) {a b : Nat} (hab : b ≠ a) : ∃ I', F_X1_copyFrom I P a b = some (I', up2 P a 0 (P b 0)) ∧ (∀ x, x ≠ a → I' x = I x) ∧ ∀ i, 1 ≤ i → i ≤ 10 → I' a i = I b i := by
  refine ⟨?w, ?e, ?f, ?g⟩
  case e =>
    unfold F_X1_copyFrom
    rcases h : P b 0 with _ | c
    · rw [osel_n rfl]; exact rfl
    · rw [osel_s rfl]; exact rfl
  case f => intro x hx; simp only [letb, up2_oth _ _ _ hx]
  case g =>
    intro i h1 h2
    have : i = 1 ∨ i = 2 ∨ i = 3 ∨ i = 4 ∨ i = 5 ∨ i = 6 ∨ i = 7 ∨ i = 8 ∨ i = 9 ∨ i = 10 := by omega
    rcases this with rfl | rfl | rfl | rfl | rfl | rfl | rfl | rfl | rfl | rfl <;> simp [letb, up2, hab]
theorem row_ix2 : ∀ i, i < 20 → (inb (nI i * 3) 60 = true ∧ (nI i * 3).toNatClampNeg = 3 * i) ∧ (inb (nI i * 3 + 1) 60 = true ∧ (nI i * 3 + 1).toNatClampNeg = 3 * i + 1) ∧ (inb (nI i * 3 + 2) 60 = true ∧ (nI i * 3 + 2).toNatClampNeg = 3 * i + 2) ∧ 3 * nI i = nI i * 3 := by decide +kernel
theorem row_3 : ∀ i, i < 21 → 3 * nI i = nI (3 * i) := by decide +kernel
section
variable {kd wt wd cl : Int32} {L M : Nat → Int32}
theorem x_proveL {N : Nat} {T : TM} {P : PM} {c : Nat} (hP : P 89 0 = some c) (hc : isF T c = true) (hK : kmapR (T.2.1 c) kd) (hca : 124 ≤ c) (hw : ¬ wd ≤ 0) : ∀ (m i n : Nat) (I : IM), I 64 11 = nI i → VF n (I 89) → n + m < 300000 → i + m ≤ 20 → I 89 1 = wt → I c 2 = wd → I c 3 = cl → I 67 = L → ∀ f, m < f → ∃ I', G_X11_prove_48 N T P (nI (i + m)) f I = some (nI (i + cntF kd wt wd cl L m (I 89)), I', P) ∧ (∀ x, x ≠ 88 → x ≠ 89 → x ≠ 64 → I' x = I x) ∧ I' 64 11 = nI (i + cntF kd wt wd cl L m (I 89)) ∧ (∀ j, j ≠ 11 → I' 64 j = I 64 j) ∧ (∀ k, k < cntF kd wt wd cl L m (I 89) → ∀ w, w < 3 → I' 88 (3 * (i + k) + w) = itF kd wt wd cl L (k + 1) (I 89) (3 + w)) ∧ (∀ x, x < 3 * i → I' 88 x = I 88 x) := by
  intro m
  induction m with
  | zero =>
    intro i n I hi0 v hn hi e1 e2 e3 e4 f hf
    obtain ⟨f, rfl⟩ : ∃ g, f = g + 1 := ⟨f - 1, by omega⟩
    refine ⟨I, ?_, fun _ _ _ _ => rfl, hi0, fun _ _ => rfl, fun k hk => absurd hk (Nat.not_lt_zero k), fun _ _ => rfl⟩
    rw [G_X11_prove_48, hi0, if_pos (nI_le (by omega) (by omega))]
    rfl
  | succ m ih =>
    intro i n I hi0 v hn hi e1 e2 e3 e4 f hf
    obtain ⟨f, rfl⟩ : ∃ g, f = g + 1 := ⟨f - 1, by omega⟩
    rw [G_X11_prove_48, if_neg (by rw [hi0]; exact nI_ge (by omega) (by omega))]
    by_cases h4 : 0 < I 89 4
    · have hl : F_X1_landed I 89 = 0 := by unfold F_X1_landed; rw [if_pos h4]
      obtain ⟨I1, hI1, f1, hrow, v1⟩ := x_tick (b := 67) hP hc hK (by rw [e2]; exact hw) (by decide) (by omega) v (by omega)
      rw [e1, e2, e3, e4] at hrow
      obtain ⟨⟨a1, a2⟩, ⟨b1, b2⟩, ⟨c1, c2⟩, -⟩ := row_ix2 i (by omega)
      have d64 : I1 64 11 = nI i := by rw [f1 64 (by decide)]; exact hi0
      generalize hIn : up2 (up2 (up2 (up2 I1 88 (3 * i) (I1 89 3)) 88 (3 * i + 1) (I1 89 4)) 88 (3 * i + 2) (I1 89 5)) 64 11 (nI (i + 1)) = In
      have n1 : ∀ x, x ≠ 88 → x ≠ 64 → In x = I1 x := fun x h1 h2 => by rw [← hIn, up2_oth _ _ _ h2, up2_oth _ _ _ h1, up2_oth _ _ _ h1, up2_oth _ _ _ h1]
      have n2 : In 64 11 = nI (i + 1) := by rw [← hIn, up2_s]
      have n3 : ∀ j, j ≠ 11 → In 64 j = I1 64 j := fun j hj => by rw [← hIn]; simp [up2, hj]
      have n4 : ∀ w, w < 3 → In 88 (3 * i + w) = I1 89 (3 + w) := fun w hw => by
        rw [← hIn]
        have : w = 0 ∨ w = 1 ∨ w = 2 := by omega
        rcases this with rfl | rfl | rfl <;> simp [up2]
      have n5 : ∀ x, x < 3 * i → In 88 x = I1 88 x := fun x hx => by
        rw [← hIn]
        have d0 : x ≠ 3 * i := by omega
        have d1 : x ≠ 3 * i + 1 := by omega
        have d2 : x ≠ 3 * i + 2 := by omega
        simp [up2, d0, d1, d2]
      have nrow : In 89 = I1 89 := n1 89 (by decide) (by decide)
      obtain ⟨I2, hI2, g1, g2, g3, g4, g5⟩ := ih (i + 1) (n + 1) In n2 (by rw [nrow]; exact v1) (by omega) (by omega) (by rw [nrow, hrow, fstep_1]; exact e1) (by rw [n1 c (by omega) (by omega), f1 c (by omega)]; exact e2) (by rw [n1 c (by omega) (by omega), f1 c (by omega)]; exact e3) (by rw [n1 67 (by decide) (by decide), f1 67 (by decide)]; exact e4) f (by omega)
      rw [nrow] at hI2 g2 g4
      have hk : cntF kd wt wd cl L (m + 1) (I 89) = cntF kd wt wd cl L m (I1 89) + 1 := by
        rw [hrow]
        exact if_pos h4
      rw [hk, show i + (cntF kd wt wd cl L m (I1 89) + 1) = i + 1 + cntF kd wt wd cl L m (I1 89) by omega]
      refine ⟨I2, ?_, fun x h1 h2 h3 => by rw [g1 x h1 h2 h3, n1 x h1 h3, f1 x h2], g2, fun j hj => by rw [g3 j hj, n3 j hj, f1 64 (by decide)], fun k hk w hw => ?_, fun x hx => by rw [g5 x (by omega), n5 x hx, f1 88 (by decide)]⟩
      · rw [if_pos hl, hI1]
        simp only [Option.bind_some, letb]
        rw [d64, if_pos a1, a2]
        rw [if_pos b1, b2]
        rw [if_pos c1, c2]
        rw [show i + (m + 1) = i + 1 + m by omega]
        have : up2 (up2 (up2 (up2 I1 88 (3 * i) (I1 89 3)) 88 (3 * i + 1) ((up2 I1 88 (3 * i) (I1 89 3)) 89 4)) 88 (3 * i + 2) ((up2 (up2 I1 88 (3 * i) (I1 89 3)) 88 (3 * i + 1) ((up2 I1 88 (3 * i) (I1 89 3)) 89 4)) 89 5)) 64 11 ((up2 (up2 (up2 I1 88 (3 * i) (I1 89 3)) 88 (3 * i + 1) ((up2 I1 88 (3 * i) (I1 89 3)) 89 4)) 88 (3 * i + 2) ((up2 (up2 I1 88 (3 * i) (I1 89 3)) 88 (3 * i + 1) ((up2 I1 88 (3 * i) (I1 89 3)) 89 4)) 89 5)) 64 11 + 1) = In := by
          rw [← hIn]
          simp only [up2_oth _ _ _ (show (89 : Nat) ≠ 88 by decide), up2_oth _ _ _ (show (64 : Nat) ≠ 88 by decide), d64, nI_1]
        rw [this]
        exact hI2
      · rcases Nat.eq_zero_or_pos k with rfl | hk0
        · rw [Nat.add_zero, g5 _ (by omega), n4 w hw, hrow]
          rfl
        · have := g4 (k - 1) (by omega) w hw
          rw [show i + 1 + (k - 1) = i + k by omega, show k - 1 + 1 = k by omega, hrow] at this
          exact this
    · have hl : F_X1_landed I 89 = 1 := by unfold F_X1_landed; rw [if_neg h4]
      have hk : cntF kd wt wd cl L (m + 1) (I 89) = 0 := if_neg h4
      rw [hk]
      refine ⟨I, ?_, fun _ _ _ _ => rfl, hi0, fun _ _ => rfl, fun k hk => absurd hk (Nat.not_lt_zero k), fun _ _ => rfl⟩
      rw [hl, if_neg (by decide), hi0]
      rfl
theorem m_findL {N : Nat} (hw : ¬ wd = 0) : ∀ (m i n : Nat) (I : IM), I 101 37 = nI i → VF n (mrow I) → n + m < 300000 → i + m ≤ 20 → SinOK (I 105) → I 101 19 = kd → I 101 20 = wt → I 101 21 = wd → I 101 22 = cl → I 103 = L → ∀ f, m < f → ∃ I', G_X12_findRows_9 N (nI (i + m)) f I = some I' ∧ (∀ a, a ≠ 101 → a ≠ 114 → I' a = I a) ∧ (∀ j, (j < 23 ∨ 31 < j) ∧ j ≠ 37 → I' 101 j = I 101 j) ∧ I' 101 37 = nI (i + cntF kd wt wd cl L m (mrow I)) ∧ (∀ k, k < cntF kd wt wd cl L m (mrow I) → ∀ w, w < 3 → I' 114 (3 * (i + k) + w) = itF kd wt wd cl L (k + 1) (mrow I) (3 + w)) ∧ (∀ x, x < 3 * i → I' 114 x = I 114 x) := by
  intro m
  induction m with
  | zero =>
    intro i n I hi0 v hn hi hs e1 e2 e3 e4 e5 f hf
    obtain ⟨f, rfl⟩ : ∃ g, f = g + 1 := ⟨f - 1, by omega⟩
    refine ⟨I, ?_, fun _ _ _ => rfl, fun _ _ => rfl, hi0, fun k hk => absurd hk (Nat.not_lt_zero k), fun _ _ => rfl⟩
    rw [G_X12_findRows_9, hi0, if_pos (nI_le (by omega) (by omega))]
  | succ m ih =>
    intro i n I hi0 v hn hi hs e1 e2 e3 e4 e5 f hf
    obtain ⟨f, rfl⟩ : ∃ g, f = g + 1 := ⟨f - 1, by omega⟩
    rw [G_X12_findRows_9, if_neg (by rw [hi0]; exact nI_ge (by omega) (by omega))]
    by_cases h4 : 0 < I 101 25
    · have hl : F_X12_isLanded I = 0 := by unfold F_X12_isLanded; rw [if_pos h4]
      obtain ⟨I1, hI1, f1, f2, hrow, v1⟩ := m_tickR hs (by rw [e3]; exact hw) v (by omega)
      rw [e1, e2, e3, e4, e5] at hrow
      obtain ⟨⟨a1, a2⟩, ⟨b1, b2⟩, ⟨c1, c2⟩, d3⟩ := row_ix2 i (by omega)
      have d37 : I1 101 37 = nI i := by rw [f2 37 (by decide)]; exact hi0
      generalize hIn : up2 (up2 (up2 (up2 I1 114 (3 * i) (I1 101 24)) 114 (3 * i + 1) (I1 101 25)) 114 (3 * i + 2) (I1 101 26)) 101 37 (nI (i + 1)) = In
      have n1 : ∀ x, x ≠ 114 → x ≠ 101 → In x = I1 x := fun x h1 h2 => by rw [← hIn, up2_oth _ _ _ h2, up2_oth _ _ _ h1, up2_oth _ _ _ h1, up2_oth _ _ _ h1]
      have n2 : In 101 37 = nI (i + 1) := by rw [← hIn, up2_s]
      have n3 : ∀ j, j ≠ 37 → In 101 j = I1 101 j := fun j hj => by rw [← hIn]; simp [up2, hj]
      have n4 : ∀ w, w < 3 → In 114 (3 * i + w) = mrow I1 (3 + w) := fun w hw => by
        rw [← hIn]
        have : w = 0 ∨ w = 1 ∨ w = 2 := by omega
        rcases this with rfl | rfl | rfl <;> simp [up2, mrow]
      have n5 : ∀ x, x < 3 * i → In 114 x = I1 114 x := fun x hx => by
        rw [← hIn]
        have d0 : x ≠ 3 * i := by omega
        have d1 : x ≠ 3 * i + 1 := by omega
        have d2 : x ≠ 3 * i + 2 := by omega
        simp [up2, d0, d1, d2]
      have nrow : ∀ j, j ≠ 16 → mrow In j = mrow I1 j := fun j hj => n3 (j + 21) (by omega)
      have nA : EqA (mrow I1) (mrow In) := fun j h1 h2 => (nrow j (by omega)).symm
      obtain ⟨I2, hI2, g1, g2, g3, g4, g5⟩ := ih (i + 1) (n + 1) In n2 (v1.congrA nA) (by omega) (by omega) (by rw [n1 105 (by decide) (by decide), f1 105 (by decide)]; exact hs) (by rw [n3 19 (by decide), f2 19 (by decide)]; exact e1) (by rw [n3 20 (by decide), f2 20 (by decide)]; exact e2) (by rw [n3 21 (by decide), f2 21 (by decide)]; exact e3) (by rw [n3 22 (by decide), f2 22 (by decide)]; exact e4) (by rw [n1 103 (by decide) (by decide), f1 103 (by decide)]; exact e5) f (by omega)
      rw [← cntF_A m nA] at g3
      have hk : cntF kd wt wd cl L (m + 1) (mrow I) = cntF kd wt wd cl L m (mrow I1) + 1 := by
        rw [hrow]
        exact if_pos h4
      rw [hk, show i + (cntF kd wt wd cl L m (mrow I1) + 1) = i + 1 + cntF kd wt wd cl L m (mrow I1) by omega]
      refine ⟨I2, ?_, fun x h1 h2 => by rw [g1 x h1 h2, n1 x h2 h1, f1 x h1], fun j hj => by rw [g2 j hj, n3 j hj.2, f2 j hj.1], g3, fun k hk w hw => ?_, fun x hx => by rw [g5 x (by omega), n5 x hx, f1 114 (by decide)]⟩
      · rw [if_pos hl, hI1]
        simp only [Option.bind_some]
        rw [d37, d3, if_pos a1, a2]
        simp only [letb, up2_oth _ _ _ (show (101 : Nat) ≠ 114 by decide)]
        rw [d37, d3, if_pos b1, b2, if_pos c1, c2, nI_1, hIn, show i + (m + 1) = i + 1 + m by omega]
        exact hI2
      · rcases Nat.eq_zero_or_pos k with rfl | hk0
        · rw [Nat.add_zero, g5 _ (by omega), n4 w hw, hrow]
          rfl
        · have := g4 (k - 1) (by rw [← cntF_A m nA]; omega) w hw
          rw [show i + 1 + (k - 1) = i + k by omega, show k - 1 + 1 = k by omega] at this
          rw [this, ← itF_A k nA (3 + w) (by omega) (by omega), hrow]
          rfl
    · have hl : F_X12_isLanded I = 1 := by unfold F_X12_isLanded; rw [if_neg h4]
      have hk : cntF kd wt wd cl L (m + 1) (mrow I) = 0 := if_neg h4
      rw [hk]
      refine ⟨I, ?_, fun _ _ _ => rfl, fun _ _ => rfl, hi0, fun k hk => absurd hk (Nat.not_lt_zero k), fun _ _ => rfl⟩
      rw [hl, if_neg (by decide)]
end
theorem m_copyR {N c : Nat} (hc : c ≤ 20) : ∀ (m i : Nat) (I : IM), I 101 36 = nI c → i + m = 3 * c → ∀ f, m < f → ∃ I', G_X12_prove_39 N f (nI i) I = some (nI c, I') ∧ (∀ x, x ≠ 113 → I' x = I x) ∧ (∀ j, j < i → I' 113 j = I 113 j) ∧ ∀ j, i ≤ j → j < 3 * c → I' 113 j = I 114 j := by
  intro m
  induction m with
  | zero =>
    intro i I h36 hi f hf
    obtain ⟨f, rfl⟩ : ∃ g, f = g + 1 := ⟨f - 1, by omega⟩
    refine ⟨I, ?_, fun _ _ => rfl, fun _ _ => rfl, fun j h1 h2 => by omega⟩
    rw [G_X12_prove_39, h36, row_3 c (by omega), if_pos (nI_le (by omega) (by omega))]
  | succ m ih =>
    intro i I h36 hi f hf
    obtain ⟨f, rfl⟩ : ∃ g, f = g + 1 := ⟨f - 1, by omega⟩
    obtain ⟨I2, e, g1, g2, g3⟩ := ih (i + 1) (up2 I 113 i (I 114 i)) (by rw [up2_oth _ _ _ (by decide)]; exact h36) (by omega) f (by omega)
    refine ⟨I2, ?_, fun x hx => by rw [g1 x hx, up2_oth _ _ _ hx], fun j hj => ?_, fun j h1 h2 => ?_⟩
    · rw [G_X12_prove_39, h36, row_3 c (by omega), if_neg (nI_ge (by omega) (by omega)), if_pos (inbN (by omega) (by decide)), if_pos (inbN (by omega) (by decide))]
      simp only [letb]
      rw [nI_clamp (by omega), nI_1]
      exact e
    · rw [g2 j (by omega), up2_row]
      simp [show j ≠ i by omega]
    · by_cases q : j = i
      · subst q
        rw [g2 j (by omega), up2_s]
      · rw [g3 j (by omega) h2, up2_oth _ _ _ (by decide)]
theorem q_prove {N : Nat} (hN : 400 < N) (hs : s ≤ 600) (r : Rel s T I J P) (p : Int32) : ∃ v I1 I2 P1, F_X11_prove N T I P p = some (v, I1, P1) ∧ F_X12_prove N I1 p = some (v, I2) ∧ Rel s T I2 J P1 := by
  obtain ⟨n, hC, hz, hL, hH, hA⟩ := r.now
  have h6n := hC.1
  rcases in0 p 1 20 (a := 1) (b := 20) rfl rfl with ⟨g, h⟩ | ⟨g, h⟩
  · refine ⟨-1, I, I, P, ?_, ?_, r⟩
    · unfold F_X11_prove
      simp only [Int32.lt_iff_toInt_lt, Int32.le_iff_toInt_le, Int32.reduceToInt]
      by_cases a1 : p.toInt < 1
      · rw [if_pos a1]
      · rw [if_neg a1, if_neg (by omega)]
    · unfold F_X12_prove
      rw [g]
      rfl
  · have ex : F_X11_prove N T I P p = osel (P 69 0) (some ((-4), I, P)) (fun c3 => ((F_X1_copyFrom I P 89 69).bind (fun x5 => (letb (up2 x5.1 64 11 0) (fun I6 : IM => (G_X11_prove_48 N T x5.2 p N I6)))))) := by
      unfold F_X11_prove
      simp only [Int32.lt_iff_toInt_lt, Int32.le_iff_toInt_le, Int32.reduceToInt]
      rw [if_neg (by omega), if_pos (by omega)]
    have em : ∀ I1 : IM, F_X12_prove N I1 p = (if 0 ≤ (I1 106 0) then ((F_X12_findRows N I1 p).bind (fun x3 => (letb (up2 x3 101 36 (x3 101 37)) (fun I4 : IM => (G_X12_prove_39 N N 0 I4))))) else (some ((-4), I1))) := by
      intro I1
      unfold F_X12_prove
      rw [g, if_neg (by decide)]
    rcases air_some hC hA with ⟨a1, a2⟩ | ⟨c, j, m, a1, a2, a3, a4, a5, a6, a7, a8, hr⟩
    · exact ⟨-4, I, I, P, by rw [ex, osel_n a1], by rw [em, a2]; rfl, r⟩
    · obtain ⟨w1, w2⟩ := hr.wd0
      have hc := hr.1
      obtain ⟨M, hM, hp⟩ : ∃ M, M ≤ 20 ∧ p = nI M := ⟨p.toInt.toNat, by omega, of_nat (by omega)⟩
      subst hp
      obtain ⟨Ia, ea, fa, ga⟩ := x_copyF I P (a := 89) (b := 69) (by decide)
      rw [a2] at ea
      have hq : EqF (I 69) (Ia 89) := fun i h1 h2 => (ga i (by omega) h2).symm
      generalize hIb : up2 Ia 64 11 0 = Ib
      have b1 : ∀ x, x ≠ 64 → Ib x = Ia x := fun x hx => by rw [← hIb, up2_oth _ _ _ hx]
      have b2 : Ib 64 11 = nI 0 := by rw [← hIb, up2_s]; rfl
      have b3 : ∀ i, i ≠ 11 → Ib 64 i = I 64 i := fun i hi => by rw [← hIb, ← fa 64 (by decide)]; simp [up2, hi]
      have b89 : Ib 89 = Ia 89 := b1 89 (by decide)
      obtain ⟨I1, e1, f1, f2, f3, f4, -⟩ := x_proveL (N := N) (kd := I 102 (4 * j)) (wt := I 102 (4 * j + 1)) (wd := I 102 (4 * j + 2)) (cl := I 102 (4 * j + 3)) (T := T) (P := up2 P 89 0 (some c)) (c := c) (L := I 67) (up2_s _ _ _ _) hr.2.1 hr.2.2.1 hr.1 w1 M 0 m Ib b2 (by rw [b89]; exact a8.congr hq) (by omega) (by omega) (by rw [b89, ga 1 (by decide) (by decide)]; exact a5) (by rw [b1 c (by omega), fa c (by omega)]; exact hr.2.2.2.2.2.1) (by rw [b1 c (by omega), fa c (by omega)]; exact hr.2.2.2.2.2.2.1) (by rw [b1 67 (by decide), fa 67 (by decide)]) N (by omega)
      rw [b89, ← cntF_A M hq.a] at e1 f2
      have f1' : ∀ x, x ≠ 88 → x ≠ 89 → x ≠ 64 → I1 x = I x := fun x h1 h2 h3 => by rw [f1 x h1 h2 h3, b1 x h3, fa x h2]
      obtain ⟨I2, e2, k1, k2, c0, c1, c2, c3, k3⟩ := m_takes (I := I1) (j := j) (by omega) (by rw [f1' 106 (by decide) (by decide) (by decide)]; exact a4)
      rw [f1' 102 (by decide) (by decide) (by decide)] at c0 c1 c2 c3
      have hA2 : EqA (mrow I2) (I 69) := fun i h1 h2 => by
        have := k3 (i - 1) (by omega) (by omega)
        rw [show i - 1 + 1 = i by omega, f1' 106 (by decide) (by decide) (by decide)] at this
        have q := a6 (i - 1) (by omega) (by omega)
        rw [show i - 1 + 1 = i by omega] at q
        rw [this, q]
      generalize hI3 : up2 I2 101 37 0 = I3
      have t1 : ∀ x, x ≠ 101 → I3 x = I2 x := fun x hx => by rw [← hI3, up2_oth _ _ _ hx]
      have t2 : I3 101 37 = nI 0 := by rw [← hI3, up2_s]; rfl
      have t3 : ∀ i, i ≠ 37 → I3 101 i = I2 101 i := fun i hi => by rw [← hI3]; simp [up2, hi]
      have hA3 : EqA (mrow I3) (I 69) := fun i h1 h2 => (t3 (i + 21) (by omega)).trans (hA2 i h1 h2)
      obtain ⟨I4, e4, g1, g2, g3, g4, -⟩ := m_findL (N := N) (kd := I 102 (4 * j)) (wt := I 102 (4 * j + 1)) (wd := I 102 (4 * j + 2)) (cl := I 102 (4 * j + 3)) (L := I 103) w2 M 0 m I3 t2 (a8.congrA hA3.sy) (by omega) (by omega) (by rw [t1 105 (by decide), k1 105 (by decide), f1' 105 (by decide) (by decide) (by decide)]; exact r.sin) (by rw [t3 19 (by decide)]; exact c0) (by rw [t3 20 (by decide)]; exact c1) (by rw [t3 21 (by decide)]; exact c2) (by rw [t3 22 (by decide)]; exact c3) (by rw [t1 103 (by decide), k1 103 (by decide), f1' 103 (by decide) (by decide) (by decide)]) N (by omega)
      rw [← cntF_L hL, cntF_A M hA3] at g3
      generalize hcn : cntF (I 102 (4 * j)) (I 102 (4 * j + 1)) (I 102 (4 * j + 2)) (I 102 (4 * j + 3)) (I 67) M (I 69) = cn at *
      have hcn20 : cn ≤ 20 := by
        have := cntF_le (kd := I 102 (4 * j)) (wt := I 102 (4 * j + 1)) (wd := I 102 (4 * j + 2)) (cl := I 102 (4 * j + 3)) (L := I 67) M (I 69)
        omega
      simp only [Nat.zero_add] at e1 e4 f2 g3 f4 g4
      obtain ⟨I5, e5, l1, -, l3⟩ := m_copyR (N := N) hcn20 (3 * cn) 0 (up2 I4 101 36 (nI cn)) (up2_s _ _ _ _) (by omega) N (by omega)
      refine ⟨nI cn, I1, I5, up2 P 89 0 (some c), ?_, ?_, ?_⟩
      · rw [ex, osel_s a2, ea]
        show G_X11_prove_48 N T (up2 P 89 0 (some c)) (nI M) N (up2 Ia 64 11 0) = _
        rw [hIb]
        exact e1
      · rw [em, f1' 106 (by decide) (by decide) (by decide), a4, if_pos (nI_pos' (by omega))]
        unfold F_X12_findRows
        rw [e2]
        simp only [Option.bind_some, letb]
        rw [hI3, e4]
        simp only [Option.bind_some]
        rw [g3]
        exact e5
      · have x1 : ∀ x, x ≠ 88 → x ≠ 89 → x ≠ 64 → x ≠ 101 → x ≠ 113 → x ≠ 114 → I5 x = I x := fun x h1 h2 h3 h4 h5 h6 => by rw [l1 x h5, up2_oth _ _ _ h4, g1 x h4 h6, t1 x h4, k1 x h4, f1' x h1 h2 h3]
        have x2 : ∀ i, (i < 19 ∨ 31 < i) ∧ i ≠ 37 → i ≠ 36 → I5 101 i = I 101 i := fun i hi h36 => by
          rw [l1 101 (by decide), up2_row]
          simp only [h36, if_false]
          rw [g2 i ⟨by omega, hi.2⟩, t3 i hi.2, k2 i hi.1, f1' 101 (by decide) (by decide) (by decide)]
        have x64 : I5 64 = I1 64 := by rw [l1 64 (by decide), up2_oth _ _ _ (by decide), g1 64 (by decide) (by decide), t1 64 (by decide), k1 64 (by decide)]
        have x88 : I5 88 = I1 88 := by rw [l1 88 (by decide), up2_oth _ _ _ (by decide), g1 88 (by decide) (by decide), t1 88 (by decide), k1 88 (by decide)]
        have f : Fr [88, 89, 113, 114] [89] [] (36 :: scm) [11] I I5 J J P (up2 P 89 0 (some c)) := ⟨fun x hx hm h64 => by
          simp only [List.mem_cons, List.not_mem_nil, or_false, not_or] at hx
          exact x1 x hx.1 hx.2.1 h64 hm hx.2.2.1 hx.2.2.2, fun i hi => by
            rw [List.mem_cons, not_or] at hi
            have := scm_of hi.2
            exact x2 i ⟨by omega, by omega⟩ hi.1, fun i hi => by
            simp only [List.mem_cons, List.not_mem_nil, or_false] at hi
            rw [x64, f3 i hi, b3 i hi], fun x hx => by
            simp only [List.mem_cons, List.not_mem_nil, or_false] at hx
            rw [up2_oth _ _ _ hx], fun _ _ => rfl⟩
        refine ⟨r.t60, fr_sin r.sin f (by decide), fr_shp r.shp f (by decide), fr_now r.now f (by decide), fr_kept r.kept f (by decide), fr_tape r.tape f (by decide), ?_, fr_sh r.sh f (by decide), fr_shf r.shf f (by decide), fr_tr r.tr f (by decide)⟩
        refine ⟨cn, hcn20, by rw [x64]; exact f2, by rw [l1 101 (by decide), up2_s], fun i hi => ?_⟩
        rw [x88, l3 i (by omega) hi, up2_oth _ _ _ (by decide)]
        have q1 := f4 (i / 3) (by rw [b89, ← cntF_A M hq.a, hcn]; omega) (i % 3) (by omega)
        have q2 := g4 (i / 3) (by rw [← cntF_L hL, cntF_A M hA3, hcn]; omega) (i % 3) (by omega)
        rw [show 3 * (i / 3) + i % 3 = i by omega] at q1 q2
        have z1 := itF_A (kd := I 102 (4 * j)) (wt := I 102 (4 * j + 1)) (wd := I 102 (4 * j + 2)) (cl := I 102 (4 * j + 3)) (L := I 67) (i / 3 + 1) hA3 (3 + i % 3) (by omega) (by omega)
        have z2 := itF_A (kd := I 102 (4 * j)) (wt := I 102 (4 * j + 1)) (wd := I 102 (4 * j + 2)) (cl := I 102 (4 * j + 3)) (L := I 67) (i / 3 + 1) hq.a (3 + i % 3) (by omega) (by omega)
        rw [q1, q2, b89, ← itF_L hL, z1, z2]
end
