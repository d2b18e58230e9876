section
variable {s : Nat} {T : TM} {I I' I'' : IM} {J : JM} {P P' P'' : PM}
def lnd (φ : Nat → Int32) : Int32 := if 0 < φ 4 then (-2147483648) else sq (φ 3)
def oftF (g H : Nat → Int32) (sqr : Int32) : Nat → Nat → Int32 → Int32
  | 0, _, u => u
  | m + 1, i, u => oftF g H sqr m (i + 1) (if H i ≤ 0 then u else if g i = sqr then u + H i else u)
theorem oftF_congr {g g' H H' : Nat → Int32} {sqr : Int32} : ∀ (m i : Nat) (u : Int32), (∀ k, i ≤ k → k < i + m → g k = g' k ∧ H k = H' k) → oftF g H sqr m i u = oftF g' H' sqr m i u := by
  intro m
  induction m with
  | zero => intro i u _; rfl
  | succ m ih =>
    intro i u h
    obtain ⟨h1, h2⟩ := h i (Nat.le_refl _) (by omega)
    unfold oftF
    rw [h1, h2]
    exact ih _ _ (fun k a b => h k (by omega) (by omega))
theorem oftF_bd {g H : Nat → Int32} {sqr : Int32} (hH : ∀ j, j < 5 → 0 ≤ (H j).toInt ∧ (H j).toInt ≤ 9) : ∀ (m i : Nat) (u : Int32), i + m ≤ 5 → 0 ≤ u.toInt → u.toInt + 9 * m ≤ 45 → 0 ≤ (oftF g H sqr m i u).toInt ∧ (oftF g H sqr m i u).toInt ≤ 45 := by
  intro m
  induction m with
  | zero => intro i u _ h1 h2; exact ⟨h1, by show u.toInt ≤ 45; omega⟩
  | succ m ih =>
    intro i u hi h1 h2
    have hb := hH i (by omega)
    unfold oftF
    have ha : (u + H i).toInt = u.toInt + (H i).toInt := by rw [Int32.toInt_add, Int.bmod_eq_of_le (by omega) (by omega)]
    by_cases d : H i ≤ 0
    · rw [if_pos d]; exact ih (i + 1) u (by omega) h1 (by omega)
    · rw [if_neg d]
      by_cases e : g i = sqr
      · rw [if_pos e]; exact ih (i + 1) _ (by omega) (by omega) (by omega)
      · rw [if_neg e]; exact ih (i + 1) u (by omega) h1 (by omega)
/-- the square of a fall by the hand -/
def gH (C L : Nat → Int32) (j : Nat) (h t : Int32) (k i : Nat) : Int32 := lnd (FR C L (C (4 * j + 1)) j h (nI ((k + i + 34) % 36)) t)
theorem x_landsS {N : Nat} (hN : 400 < N) {n : Nat} (hC : CR T I (P 66) (I 65 1) (I 101 0) (I 102) n) {j k : Nat} {h t : Int32} (hj : j < n) (hk : k < 36) (hg : F_X12_isLetGo h (nI k) t = 1) : ∃ I' P', F_X11_landsOn N T I P (nI j) h (nI k) t = some (lnd (FR (I 102) (I 67) (I 102 (4 * j + 1)) j h (nI k) t), I', P') ∧ Sc I I' ∧ Ps P P' ∧ I' 92 = I 92 := by
  obtain ⟨I', c, e, f⟩ := x_lands hN hC hj hk rfl hg
  exact ⟨I', _, e, Sc.of1 (a := 89) (by decide) (by decide) f, Ps.s89, f 92 (by decide)⟩
theorem m_fallsS {N : Nat} (hN : 400 < N) {I : IM} {j k : Nat} {h t : Int32} (hs : SinOK (I 105)) (hj : j < 6) (hwd : ¬ I 102 (4 * j + 2) = 0) (hk : k < 36) (ht : -9 ≤ t.toInt ∧ t.toInt ≤ 9) : ∃ I', F_X12_falls N I (nI j) h (nI k) t = some ((if 0 < FR (I 102) (I 103) (I 102 (4 * j + 1)) j h (nI k) t 4 then 0 else 1), I') ∧ Sc I I' ∧ EqF (mrow I') (FR (I 102) (I 103) (I 102 (4 * j + 1)) j h (nI k) t) := by
  obtain ⟨I', e, f1, f2, q⟩ := m_falls hN (h := h) hs hj hwd hk rfl ht
  exact ⟨I', e, Sc.ofm f1 f2, q⟩
theorem x_oddsL {N : Nat} (hN : 400 < N) {n j k : Nat} {h t sqr part : Int32} (hj : j < n) (hk : k < 36) (hg : F_X12_isLetGo h (nI k) t = 1) {C L H : Nat → Int32} : ∀ (m i : Nat) (u : Int32) (I : IM) (P : PM), CR T I (P 66) (I 65 1) (I 101 0) (I 102) n → I 102 = C → I 67 = L → I 68 = H → i + m = 5 → ∀ f, m < f → ∃ I' P' f', G_X11_odds_43 N T (nI j) h (nI k) t sqr part f u (nI i) I P = G_X11_odds_43 N T (nI j) h (nI k) t sqr part (f' + 1) (oftF (gH C L j h t k) H sqr m i u) (nI 5) I' P' ∧ Sc I I' ∧ Ps P P' := by
  intro m
  induction m with
  | zero =>
    intro i u I P hC e1 e2 e3 hi f hf
    obtain ⟨f, rfl⟩ : ∃ g, f = g + 1 := ⟨f - 1, by omega⟩
    exact ⟨I, P, f, by rw [show i = 5 by omega]; rfl, Sc.re _, Ps.re _⟩
  | succ m ih =>
    intro i u I P hC e1 e2 e3 hi f hf
    obtain ⟨f, rfl⟩ : ∃ g, f = g + 1 := ⟨f - 1, by omega⟩
    unfold oftF
    by_cases d : H i ≤ 0
    · obtain ⟨I2, P2, f2, e, sc, ps⟩ := ih (i + 1) u I P hC e1 e2 e3 (by omega) f (by omega)
      rw [if_pos d]
      refine ⟨I2, P2, f2, ?_, sc, ps⟩
      rw [← e, G_X11_odds_43, if_neg (lt5n (by omega)), if_pos (inbN (by omega) (by decide)), nI_clamp (by omega), e3, if_pos d, nI_1]
    · rw [if_neg d]
      have hk2 : (k + i + 34) % 36 < 36 := Nat.mod_lt _ (by decide)
      obtain ⟨I1, P1, el, sc1, ps1, -⟩ := x_landsS hN hC hj hk2 (letgo_k hk2 hg)
      have hgH : lnd (FR (I 102) (I 67) (I 102 (4 * j + 1)) j h (nI ((k + i + 34) % 36)) t) = gH C L j h t k i := by rw [e1, e2]; rfl
      rw [hgH] at el
      obtain ⟨I2, P2, f2, e, sc, ps⟩ := ih (i + 1) (if gH C L j h t k i = sqr then u + H i else u) I1 P1 (hC.sc sc1 ps1) (by rw [sc1.1 102 (by decide) (by decide)]; exact e1) (by rw [sc1.1 67 (by decide) (by decide)]; exact e2) (by rw [sc1.1 68 (by decide) (by decide)]; exact e3) (by omega) f (by omega)
      refine ⟨I2, P2, f2, ?_, sc1.tr sc, ps1.tr ps⟩
      rw [← e, G_X11_odds_43, if_neg (lt5n (by omega)), if_pos (inbN (by omega) (by decide)), nI_clamp (by omega), e3, if_neg d, (hand36 k hk i (by omega)).1]
      simp only [Option.bind_some]
      rw [el]
      simp only [Option.bind_some, letb]
      rw [if_pos (inbN (by omega) (by decide)), sc1.1 68 (by decide) (by decide), e3, nI_1]
      by_cases q : gH C L j h t k i = sqr
      · rw [if_pos q, if_pos q]
      · rw [if_neg q, if_neg q]
theorem m_oftL {N : Nat} (hN : 400 < N) {j k : Nat} {h t sqr : Int32} (hj : j < 6) (hk : k < 36) (ht : -9 ≤ t.toInt ∧ t.toInt ≤ 9) (hsq : ¬ (-2147483648) = sqr) {C L H : Nat → Int32} (hwd : ¬ C (4 * j + 2) = 0) : ∀ (m i : Nat) (u : Int32) (I : IM), SinOK (I 105) → I 102 = C → I 103 = L → I 104 = H → i + m = 5 → ∀ f, m < f → ∃ I', G_X12_oftenOn_6 N (nI j) h (nI k) t sqr f u (nI i) I = some (oftF (gH C L j h t k) H sqr m i u, I') ∧ Sc I I' := by
  intro m
  induction m with
  | zero =>
    intro i u I hs e1 e2 e3 hi f hf
    obtain ⟨f, rfl⟩ : ∃ g, f = g + 1 := ⟨f - 1, by omega⟩
    refine ⟨I, ?_, Sc.re _⟩
    rw [G_X12_oftenOn_6, if_pos (by rw [show i = 5 by omega]; decide)]
    rfl
  | succ m ih =>
    intro i u I hs e1 e2 e3 hi f hf
    obtain ⟨f, rfl⟩ : ∃ g, f = g + 1 := ⟨f - 1, by omega⟩
    unfold oftF
    rw [G_X12_oftenOn_6, if_neg (lt5n (by omega)), if_pos (inbN (by omega) (by decide)), nI_clamp (by omega), e3]
    by_cases d : H i ≤ 0
    · rw [if_pos d, if_pos d, nI_1]
      exact ih (i + 1) u I hs e1 e2 e3 (by omega) f (by omega)
    · rw [if_neg d, if_neg d, (hand36 k hk i (by omega)).2]
      have hk2 : (k + i + 34) % 36 < 36 := Nat.mod_lt _ (by decide)
      obtain ⟨I1, e4, sc1, q1⟩ := m_fallsS hN (I := I) (j := j) (h := h) (t := t) hs hj (by rw [e1]; exact hwd) hk2 ht
      rw [e1, e2] at e4 q1
      rw [e4]
      simp only [Option.bind_some]
      obtain ⟨I2, e5, sc2⟩ := ih (i + 1) (if gH C L j h t k i = sqr then u + H i else u) I1 (sc1.sin hs) (by rw [sc1.1 102 (by decide) (by decide)]; exact e1) (by rw [sc1.1 103 (by decide) (by decide)]; exact e2) (by rw [sc1.1 104 (by decide) (by decide)]; exact e3) (by omega) f (by omega)
      refine ⟨I2, ?_, sc1.tr sc2⟩
      rw [← e5]
      by_cases h4 : 0 < FR C L (C (4 * j + 1)) j h (nI ((k + i + 34) % 36)) t 4
      · have hg : gH C L j h t k i = -2147483648 := if_pos h4
        rw [if_pos h4, if_pos rfl, hg, if_neg hsq, nI_1]
      · have hg : gH C L j h t k i = sq (FR C L (C (4 * j + 1)) j h (nI ((k + i + 34) % 36)) t 3) := if_neg h4
        rw [if_neg h4, if_neg (by decide), m_square q1, ← hg]
        simp only [letb]
        by_cases q : gH C L j h t k i = sqr
        · rw [if_pos q, if_pos q, if_pos (inbN (by omega) (by decide)), sc1.1 104 (by decide) (by decide), e3, nI_1]
        · rw [if_neg q, if_neg q, Int32.add_zero, nI_1]
/-! parts of a whole -/
theorem rem46 : ∀ a, a < 46 → ∀ b, b < 46 → ¬ b = 0 → nI a - nI a / nI b * nI b = nI (a % b) := by decide +kernel
theorem gcd_st {a b : Nat} : Nat.gcd a b = Nat.gcd b (a % b) := by rw [Nat.gcd_comm b (a % b), ← Nat.gcd_rec, Nat.gcd_comm]
theorem nI_n0 {b : Nat} (hb : b < 46) (h : ¬ b = 0) : ¬ nI b = 0 := fun e => h ((nI_eq (b := 0) (by omega) (by decide)).mp e)
theorem x_gcd {N : Nat} : ∀ (B b a i f : Nat), b ≤ B → b < 46 → a < 46 → i + b ≤ 64 → b < f → G_X11_commonDivisor_7 N f (nI a) (nI b) (nI i) = some (nI (Nat.gcd a b)) := by
  intro B
  induction B with
  | zero =>
    intro b a i f hB hb ha hi hf
    obtain ⟨f, rfl⟩ : ∃ g, f = g + 1 := ⟨f - 1, by omega⟩
    have : b = 0 := by omega
    subst this
    rw [G_X11_commonDivisor_7, if_pos (show nI 0 = 0 from rfl), ite_self, Nat.gcd_zero_right]
  | succ B ih =>
    intro b a i f hB hb ha hi hf
    obtain ⟨f, rfl⟩ : ∃ g, f = g + 1 := ⟨f - 1, by omega⟩
    by_cases h0 : b = 0
    · subst h0
      rw [G_X11_commonDivisor_7, if_pos (show nI 0 = 0 from rfl), ite_self, Nat.gcd_zero_right]
    · have h64 : ¬ (64 : Int32) ≤ nI i := nI_ge (a := i) (b := 64) (by omega) (by decide)
      have hm : a % b < b := Nat.mod_lt _ (by omega)
      rw [G_X11_commonDivisor_7, if_neg h64, if_neg (nI_n0 hb h0), if_pos (nI_n0 hb h0)]
      simp only [letb]
      rw [rem46 a ha b hb h0, nI_1, ih (a % b) b (i + 1) f (by omega) (by omega) hb (by omega) (by omega), ← gcd_st]
theorem m_gcd {N : Nat} {u0 u1 u2 : Int32} : ∀ (B b a f : Nat), b ≤ B → b < 46 → a < 46 → b < f → ¬ Nat.gcd a b = 0 → G_X12_partOf_5 N u0 u1 u2 f (nI a) (nI b) = some ((if u2 = 0 then u0 else u1) / nI (Nat.gcd a b)) := by
  intro B
  induction B with
  | zero =>
    intro b a f hB hb ha hf hg
    obtain ⟨f, rfl⟩ : ∃ g, f = g + 1 := ⟨f - 1, by omega⟩
    have : b = 0 := by omega
    subst this
    rw [Nat.gcd_zero_right] at hg ⊢
    rw [G_X12_partOf_5, if_pos (show nI 0 = 0 from rfl)]
    simp only [letb]
    rw [if_pos (nI_n0 ha hg)]
  | succ B ih =>
    intro b a f hB hb ha hf hg
    obtain ⟨f, rfl⟩ : ∃ g, f = g + 1 := ⟨f - 1, by omega⟩
    by_cases h0 : b = 0
    · subst h0
      rw [Nat.gcd_zero_right] at hg ⊢
      rw [G_X12_partOf_5, if_pos (show nI 0 = 0 from rfl)]
      simp only [letb]
      rw [if_pos (nI_n0 ha hg)]
    · have hm : a % b < b := Nat.mod_lt _ (by omega)
      rw [G_X12_partOf_5, if_neg (nI_n0 hb h0), if_pos (nI_n0 hb h0)]
      simp only [letb]
      rw [rem46 a ha b hb h0, ih (a % b) b f (by omega) (by omega) hb (by omega) (by rw [← gcd_st]; exact hg), ← gcd_st]
theorem sq_eq (p : Int32) : F_X11_isSquare p = F_X12_isSquare p := rfl
theorem sq_no {p : Int32} (h : F_X12_isSquare p = 1) : ¬ (-2147483648) = p := by
  rintro rfl
  revert h
  decide
theorem sq_01 (p : Int32) : F_X12_isSquare p = 0 ∨ F_X12_isSquare p = 1 := by
  unfold F_X12_isSquare
  rcases in0 p (-999) 999 (a := -999) (b := 999) (by decide) rfl with ⟨h, -⟩ | ⟨h, -⟩
  · exact Or.inl h
  · exact Or.inr h
theorem q_odds {N : Nat} (hN : 400 < N) (r : Rel s T I J P) (p1 p2 p3 p4 p5 p6 : Int32) : ∃ v I1 I2 P1, F_X11_odds N T I P p1 p2 p3 p4 p5 p6 = some (v, I1, P1) ∧ F_X12_odds N I1 p1 p2 p3 p4 p5 p6 = some (v, I2) ∧ Rel s T I2 J P1 := by
  obtain ⟨n, hC, hz, hL, hH, hA⟩ := r.now
  have h6 := hC.1
  rcases sq_01 p5 with hq | hq
  · refine ⟨-1, I, I, P, ?_, ?_, r⟩
    · unfold F_X11_odds; rw [sq_eq, hq]; rfl
    · unfold F_X12_odds; rw [hq]; simp
  · rcases in0 p6 0 1 (a := 0) (b := 1) rfl rfl with ⟨g, h⟩ | ⟨g, h⟩
    · refine ⟨-1, I, I, P, ?_, ?_, r⟩
      · unfold F_X11_odds
        rw [sq_eq, hq, if_neg (by decide)]
        simp only [Int32.lt_iff_toInt_lt, Int32.reduceToInt]
        by_cases a1 : p6.toInt < 0
        · rw [if_pos a1]
        · rw [if_neg a1, if_pos (by omega)]
      · unfold F_X12_odds F_X12_isSide
        rw [g]
        simp
    · have ex : F_X11_odds N T I P p1 p2 p3 p4 p5 p6 = ((F_X11_begin T I P 89 p1 p2 p3 p4).bind (fun x4 => (if x4.1 = 0 then (some ((-1), x4.2.1, x4.2.2)) else (G_X11_odds_43 N T p1 p2 p3 p4 p5 p6 N 0 0 x4.2.1 x4.2.2)))) := by
        unfold F_X11_odds
        rw [sq_eq, hq, if_neg (by decide)]
        simp only [Int32.lt_iff_toInt_lt, Int32.reduceToInt]
        rw [if_neg (by omega), if_neg (by omega)]
      rcases b_begin hC (a := 89) (by decide) p1 p2 p3 p4 with ⟨g1, g2⟩ | ⟨g1, j, k, c, I1, hj, hp, hk, hs, ht, hc, hr, e2, f1, f2, q⟩
      · refine ⟨-1, I, I, P, ?_, ?_, r⟩
        · rw [ex, g2]; rfl
        · unfold F_X12_odds; rw [g1]; rfl
      · subst hp hs
        have sc0 : Sc I I1 := Sc.of1 (a := 89) (by decide) (by decide) f1
        obtain ⟨I2, P2, f', e3, sc1, ps1⟩ := x_oddsL (sqr := p5) (part := p6) (C := I 102) (L := I 67) (H := I 68) hN hj hk (isFall_1 g1).2 5 0 0 I1 (up2 P 89 0 (some c)) (hC.sc sc0 Ps.s89) (sc0.1 102 (by decide) (by decide)) (sc0.1 67 (by decide) (by decide)) (sc0.1 68 (by decide) (by decide)) rfl N (by omega)
        have sc2 := sc0.tr sc1
        obtain ⟨I3, e4, sc3⟩ := m_oftL (sqr := p5) (C := I 102) (L := I 103) (H := I 104) hN (j := j) (h := p2) (by omega) hk ht (sq_no hq) hr.wd0.2 5 0 0 I2 (sc2.sin r.sin) (sc2.1 102 (by decide) (by decide)) (sc2.1 103 (by decide) (by decide)) (sc2.1 104 (by decide) (by decide)) rfl N (by omega)
        have eo : oftF (gH (I 102) (I 103) j p2 p4 k) (I 104) p5 5 0 0 = oftF (gH (I 102) (I 67) j p2 p4 k) (I 68) p5 5 0 0 := oftF_congr 5 0 0 (fun i _ hi => ⟨by unfold gH; rw [FR_L hL], (hH.1 i (by omega)).1.symm⟩)
        rw [eo] at e4
        obtain ⟨b1, b2⟩ := oftF_bd (g := gH (I 102) (I 67) j p2 p4 k) (H := I 68) (sqr := p5) (fun i hi => (hH.1 i hi).2) 5 0 0 (by omega) (by decide) (by decide)
        obtain ⟨-, b3, b4⟩ := hH.sum5
        have oa := of_nat b1
        have ob := of_nat (p := sumF (I 68) 0 5 0) (by omega)
        generalize oftF (gH (I 102) (I 67) j p2 p4 k) (I 68) p5 5 0 0 = A at *
        generalize hB : sumF (I 68) 0 5 0 = B at *
        generalize ha : A.toInt.toNat = a at *
        generalize hb : B.toInt.toNat = b at *
        subst oa ob
        have ha46 : a < 46 := by omega
        have hb46 : b < 46 := by omega
        have hb1 : 1 ≤ b := by omega
        have hgp : 0 < Nat.gcd a b := Nat.gcd_pos_of_pos_right _ (by omega)
        have hgl : Nat.gcd a b ≤ b := Nat.gcd_le_right _ (by omega)
        have xg := x_gcd (N := N) 46 b a 0 N (by omega) hb46 ha46 (by omega) (by omega)
        have mg := m_gcd (N := N) (u0 := nI a) (u1 := nI b) (u2 := p6) 46 b a N (by omega) hb46 ha46 (by omega) (by omega)
        have h1g : (1 : Int32) ≤ nI (Nat.gcd a b) := nI_le (a := 1) (b := Nat.gcd a b) (by omega) (by omega)
        have h0g : ¬ nI (Nat.gcd a b) = 0 := nI_n0 (by omega) (by omega)
        refine ⟨(if p6 = 0 then nI a else nI b) / nI (Nat.gcd a b), I2, I3, P2, ?_, ?_, r.sc (sc2.tr sc3) (Ps.s89.tr ps1)⟩
        · rw [ex, e2]
          show G_X11_odds_43 N T (nI j) p2 (nI k) p4 p5 p6 N 0 (nI 0) I1 (up2 P 89 0 (some c)) = _
          rw [e3, G_X11_odds_43, if_pos (by decide), x_sum (by omega), sc2.1 68 (by decide) (by decide), hB]
          simp only [Option.bind_some]
          rw [show F_X11_commonDivisor N (nI a) (nI b) = some (nI (Nat.gcd a b)) from xg]
          simp only [Option.bind_some]
          rw [if_pos h1g, if_pos h0g, if_pos h0g]
          by_cases z : p6 = 0
          · rw [if_pos z, if_pos z]
          · rw [if_neg z, if_neg z]
        · have gf : F_X12_isFall I2 (nI j) p2 (nI k) p4 = 1 := by
            rw [← g1]
            unfold F_X12_isFall F_X12_isCard
            rw [sc2.2 0 (by decide)]
          unfold F_X12_odds F_X12_isSide F_X12_oftenOn F_X12_partOf
          rw [gf, hq, g, if_neg (by decide), if_neg (by decide), if_neg (by decide)]
          show ((G_X12_oftenOn_6 N (nI j) p2 (nI k) p4 p5 N 0 (nI 0) I2).bind _) = _
          rw [e4]
          simp only [Option.bind_some]
          rw [m_sum (by omega), sc3.1 104 (by decide) (by decide), sc2.1 104 (by decide) (by decide), ← hH.sum, hB]
          simp only [Option.bind_some]
          rw [mg]
          rfl
end
