section
variable {s : Nat} {T : TM} {I I' I'' : IM} {J : JM} {P P' P'' : PM}
def aimS (w : Nat → Int32) : Nat → Nat → Int32 → Int32 → Int32
  | 0, _, best, _ => best
  | m + 1, a, best, most => if w a ≤ most then aimS w m (a + 1) best most else aimS w m (a + 1) (nI a) (w a)
theorem aimS_congr {w w' : Nat → Int32} : ∀ (m a : Nat) (b u : Int32), (∀ k, a ≤ k → k < a + m → w k = w' k) → aimS w m a b u = aimS w' m a b u := by
  intro m
  induction m with
  | zero => intro a b u _; rfl
  | succ m ih =>
    intro a b u h
    unfold aimS
    rw [h a (Nat.le_refl _) (by omega), ih _ _ _ (fun k h1 h2 => h k (by omega) (by omega)), ih _ _ _ (fun k h1 h2 => h k (by omega) (by omega))]
theorem lt36n {i : Nat} (h : i < 36) : ¬ (36 : Int32) ≤ nI i := nI_ge (a := i) (b := 36) h (by decide)
theorem x_aimL {N : Nat} (hN : 400 < N) {n j : Nat} {h t sqr : Int32} (hj : j < n) (hg : F_X12_isLetGo h 0 t = 1) {C L : Nat → Int32} : ∀ (m a : Nat) (I : IM) (P : PM), CR T I (P 66) (I 65 1) (I 101 0) (I 102) n → I 102 = C → I 67 = L → a + m = 36 → ∀ f, m < f → ∃ I' P', G_X11_aim_28 N T (nI j) h t sqr f (nI a) I P = G_X11_aim_67 N T I' P' sqr N (-3) 0 0 ∧ Sc I I' ∧ Ps P P' ∧ (∀ x, a ≤ x → x < 36 → I' 92 x = lnd (FR C L (C (4 * j + 1)) j h (nI x) t)) ∧ ∀ x, x < a → I' 92 x = I 92 x := by
  intro m
  induction m with
  | zero =>
    intro a I P hC e1 e2 ha f hf
    obtain ⟨f, rfl⟩ : ∃ g, f = g + 1 := ⟨f - 1, by omega⟩
    refine ⟨I, P, ?_, Sc.re _, Ps.re _, fun x h1 h2 => by omega, fun _ _ => rfl⟩
    rw [G_X11_aim_28, if_pos (by rw [show a = 36 by omega]; decide)]
  | succ m ih =>
    intro a I P hC e1 e2 ha f hf
    obtain ⟨f, rfl⟩ : ∃ g, f = g + 1 := ⟨f - 1, by omega⟩
    have ha36 : a < 36 := by omega
    obtain ⟨I1, P1, el, sc1, ps1, k92⟩ := x_landsS hN hC hj ha36 (letgo_k ha36 hg)
    rw [e1, e2] at el
    generalize hv : lnd (FR C L (C (4 * j + 1)) j h (nI a) t) = v at *
    have sc2 : Sc I (up2 I1 92 a v) := sc1.tr (Sc.of1 (a := 92) (by decide) (by decide) (fun x hx => up2_oth _ _ _ hx))
    obtain ⟨I2, P2, e3, sc3, ps3, q1, q2⟩ := ih (a + 1) (up2 I1 92 a v) P1 (hC.sc sc2 ps1) (by rw [sc2.1 102 (by decide) (by decide)]; exact e1) (by rw [sc2.1 67 (by decide) (by decide)]; exact e2) (by omega) f (by omega)
    refine ⟨I2, P2, ?_, sc2.tr sc3, ps1.tr ps3, fun x h1 h2 => ?_, fun x hx => ?_⟩
    · rw [← e3, G_X11_aim_28, if_neg (lt36n ha36), el]
      simp only [Option.bind_some, letb]
      rw [if_pos (inbN ha36 (by decide)), nI_clamp (by omega), nI_1]
    · by_cases q : x = a
      · subst q
        rw [q2 x (by omega), up2_s, hv]
      · exact q1 x (by omega) h2
    · rw [q2 x (by omega), up2_row]
      simp only [show x ≠ a by omega, if_false]
      rw [k92]
theorem x_wtL {N : Nat} {I : IM} {k : Nat} {sqr : Int32} (hk : k < 36) (hH : ∀ j, j < 5 → 0 ≤ (I 68 j).toInt) : ∀ (m i : Nat) (u : Int32), i + m = 5 → ∀ f, m < f → G_X11_weightsToward_5 N I (nI k) sqr f u (nI i) = some (oftF (fun i => I 92 ((k + i + 34) % 36)) (I 68) sqr m i u) := by
  intro m
  induction m with
  | zero =>
    intro i u hi f hf
    obtain ⟨f, rfl⟩ : ∃ g, f = g + 1 := ⟨f - 1, by omega⟩
    rw [G_X11_weightsToward_5, if_pos (by rw [show i = 5 by omega]; decide)]
    rfl
  | succ m ih =>
    intro i u hi f hf
    obtain ⟨f, rfl⟩ : ∃ g, f = g + 1 := ⟨f - 1, by omega⟩
    have hk2 : (k + i + 34) % 36 < 36 := Nat.mod_lt _ (by decide)
    rw [G_X11_weightsToward_5, if_neg (lt5n (by omega)), (hand36 k hk i (by omega)).1]
    simp only [Option.bind_some, letb]
    rw [if_pos (inbN hk2 (by decide)), nI_clamp (by omega), if_pos (inbN (by omega) (by decide)), nI_clamp (by omega), nI_1]
    unfold oftF
    rw [← ih (i + 1) _ (by omega) f (by omega)]
    by_cases d : I 68 i ≤ 0
    · have h0 := hH i (by omega)
      have : I 68 i = 0 := by
        rw [Int32.le_iff_toInt_le] at d
        simp only [Int32.reduceToInt] at d
        exact Int32.toInt_inj.mp (by rw [show (0 : Int32).toInt = 0 from rfl]; omega)
      rw [if_pos d, this, Int32.add_zero, ite_self]
    · rw [if_neg d]
      split <;> rfl
theorem x_aim2 {N : Nat} (hN : 5 < N) {I : IM} {P : PM} {sqr : Int32} (hH : ∀ j, j < 5 → 0 ≤ (I 68 j).toInt) : ∀ (m a : Nat) (b u : Int32), a + m = 36 → ∀ f, m < f → G_X11_aim_67 N T I P sqr f b u (nI a) = some (aimS (fun k => oftF (fun i => I 92 ((k + i + 34) % 36)) (I 68) sqr 5 0 0) m a b u, I, P) := by
  intro m
  induction m with
  | zero =>
    intro a b u ha f hf
    obtain ⟨f, rfl⟩ : ∃ g, f = g + 1 := ⟨f - 1, by omega⟩
    rw [G_X11_aim_67, if_pos (by rw [show a = 36 by omega]; decide)]
    rfl
  | succ m ih =>
    intro a b u ha f hf
    obtain ⟨f, rfl⟩ : ∃ g, f = g + 1 := ⟨f - 1, by omega⟩
    have ew : F_X11_weightsToward N I (nI a) sqr = some (oftF (fun i => I 92 ((a + i + 34) % 36)) (I 68) sqr 5 0 0) := x_wtL (N := N) (by omega) hH 5 0 0 rfl N hN
    rw [G_X11_aim_67, if_neg (lt36n (by omega)), ew]
    simp only [Option.bind_some]
    unfold aimS
    rw [nI_1, ih _ _ _ (by omega) f (by omega), ih _ _ _ (by omega) f (by omega)]
    by_cases d : oftF (fun i => I 92 ((a + i + 34) % 36)) (I 68) sqr 5 0 0 ≤ u
    · simp only [if_pos d]
    · simp only [if_neg d]
theorem m_aimL {N : Nat} (hN : 400 < N) {j : Nat} {h t sqr : Int32} (hj : j < 6) (ht : -9 ≤ t.toInt ∧ t.toInt ≤ 9) (hsq : ¬ (-2147483648) = sqr) {C L H : Nat → Int32} (hwd : ¬ C (4 * j + 2) = 0) : ∀ (m a : Nat) (b u : Int32) (I : IM), SinOK (I 105) → I 102 = C → I 103 = L → I 104 = H → a + m = 36 → ∀ f, m < f → ∃ I', G_X12_aim_31 N (nI j) h t sqr f b u (nI a) I = some (aimS (fun k => oftF (gH C L j h t k) H sqr 5 0 0) m a b u, I') ∧ Sc I I' := by
  intro m
  induction m with
  | zero =>
    intro a b u I hs e1 e2 e3 ha f hf
    obtain ⟨f, rfl⟩ : ∃ g, f = g + 1 := ⟨f - 1, by omega⟩
    refine ⟨I, ?_, Sc.re _⟩
    rw [G_X12_aim_31, if_pos (by rw [show a = 36 by omega]; decide)]
    rfl
  | succ m ih =>
    intro a b u I hs e1 e2 e3 ha f hf
    obtain ⟨f, rfl⟩ : ∃ g, f = g + 1 := ⟨f - 1, by omega⟩
    obtain ⟨I1, e4, sc1⟩ := m_oftL (sqr := sqr) (C := C) (L := L) (H := H) hN (j := j) (h := h) (k := a) hj (by omega) ht hsq hwd 5 0 0 I hs e1 e2 e3 rfl N (by omega)
    have e4' : F_X12_oftenOn N I (nI j) h (nI a) t sqr = some (oftF (gH C L j h t a) H sqr 5 0 0, I1) := e4
    have s1 := sc1.sin hs
    have s2 : I1 102 = C := by rw [sc1.1 102 (by decide) (by decide)]; exact e1
    have s3 : I1 103 = L := by rw [sc1.1 103 (by decide) (by decide)]; exact e2
    have s4 : I1 104 = H := by rw [sc1.1 104 (by decide) (by decide)]; exact e3
    rw [G_X12_aim_31, if_neg (lt36n (by omega)), e4']
    simp only [Option.bind_some, letb]
    unfold aimS
    by_cases d : oftF (gH C L j h t a) H sqr 5 0 0 ≤ u
    · rw [if_pos d, if_pos d, if_pos d, nI_1]
      obtain ⟨I2, e5, sc2⟩ := ih (a + 1) b u I1 s1 s2 s3 s4 (by omega) f (by omega)
      exact ⟨I2, e5, sc1.tr sc2⟩
    · rw [if_neg d, if_neg d, if_neg d, nI_1]
      obtain ⟨I2, e5, sc2⟩ := ih (a + 1) (nI a) (oftF (gH C L j h t a) H sqr 5 0 0) I1 s1 s2 s3 s4 (by omega) f (by omega)
      exact ⟨I2, e5, sc1.tr sc2⟩
theorem q_aim {N : Nat} (hN : 400 < N) (r : Rel s T I J P) (p1 p2 p3 p4 : Int32) : ∃ v I1 I2 P1, F_X11_aim N T I P p1 p2 p3 p4 = some (v, I1, P1) ∧ F_X12_aim N I1 p1 p2 p3 p4 = some (v, I2) ∧ Rel s T I2 J P1 := by
  obtain ⟨n, hC, hz, hL, hH, hA⟩ := r.now
  have h6 := hC.1
  rcases sq_01 p4 with hq | hq
  · refine ⟨-1, I, I, P, ?_, ?_, r⟩
    · unfold F_X11_aim; rw [sq_eq, hq]; rfl
    · unfold F_X12_aim; rw [hq]; simp
  · rcases b_begin hC (a := 89) (by decide) p1 p2 0 p3 with ⟨g1, g2⟩ | ⟨g1, j, k, c, I1, hj, hp, hk, hs, ht, hc, hr, e2, f1, f2, q⟩
    · refine ⟨-1, I, I, P, ?_, ?_, r⟩
      · unfold F_X11_aim; rw [sq_eq, hq, if_neg (by decide), g2]; rfl
      · unfold F_X12_aim; rw [g1]; rfl
    · subst hp
      have sc0 : Sc I I1 := Sc.of1 (a := 89) (by decide) (by decide) f1
      obtain ⟨I2, P2, e3, sc1, ps1, q1, -⟩ := x_aimL (sqr := p4) (C := I 102) (L := I 67) hN hj (isFall_1 g1).2 36 0 I1 (up2 P 89 0 (some c)) (hC.sc sc0 Ps.s89) (sc0.1 102 (by decide) (by decide)) (sc0.1 67 (by decide) (by decide)) rfl N (by omega)
      have sc2 := sc0.tr sc1
      have e68 := sc2.1 68 (by decide) (by decide)
      have e5 := x_aim2 (N := N) (T := T) (I := I2) (P := P2) (sqr := p4) (by omega) (fun i hi => by rw [e68]; exact (hH.1 i hi).2.1) 36 0 (-3) 0 rfl N (by omega)
      obtain ⟨I3, e4, sc3⟩ := m_aimL (sqr := p4) (C := I 102) (L := I 103) (H := I 104) hN (j := j) (h := p2) (by omega) ht (sq_no hq) hr.wd0.2 36 0 (-3) 0 I2 (sc2.sin r.sin) (sc2.1 102 (by decide) (by decide)) (sc2.1 103 (by decide) (by decide)) (sc2.1 104 (by decide) (by decide)) rfl N (by omega)
      have eo : aimS (fun k => oftF (fun i => I2 92 ((k + i + 34) % 36)) (I2 68) p4 5 0 0) 36 0 (-3) 0 = aimS (fun k => oftF (gH (I 102) (I 103) j p2 p3 k) (I 104) p4 5 0 0) 36 0 (-3) 0 := aimS_congr 36 0 _ _ (fun k _ hk => oftF_congr 5 0 0 (fun i _ hi => ⟨by
        show I2 92 ((k + i + 34) % 36) = gH (I 102) (I 103) j p2 p3 k i
        rw [q1 _ (by omega) (Nat.mod_lt _ (by decide)), FR_L hL]
        rfl, by rw [e68]; exact (hH.1 i (by omega)).1⟩))
      rw [eo] at e5
      refine ⟨aimS (fun k => oftF (gH (I 102) (I 103) j p2 p3 k) (I 104) p4 5 0 0) 36 0 (-3) 0, I2, I3, P2, ?_, ?_, r.sc (sc2.tr sc3) (Ps.s89.tr ps1)⟩
      · unfold F_X11_aim
        rw [sq_eq, hq, if_neg (by decide), e2]
        show G_X11_aim_28 N T (nI j) p2 p3 p4 N (nI 0) I1 (up2 P 89 0 (some c)) = _
        rw [e3]
        exact e5
      · have gf : F_X12_isFall I2 (nI j) p2 0 p3 = 1 := by
          rw [← g1]
          unfold F_X12_isFall F_X12_isCard
          rw [sc2.2 0 (by decide)]
        unfold F_X12_aim
        rw [gf, hq, if_neg (by decide), if_neg (by decide)]
        exact e4
/-! longest -/
theorem x_lonL {N : Nat} (hN : 400 < N) {n k : Nat} {h t : Int32} (hk : k < 36) (hg : F_X12_isLetGo h (nI k) t = 1) (ht : -9 ≤ t.toInt ∧ t.toInt ≤ 9) {C L : Nat → Int32} : ∀ (m i : Nat) (b u : Int32) (I : IM) (P : PM), CR T I (P 66) (I 65 1) (I 101 0) (I 102) n → I 102 = C → I 67 = L → i + m = n → ∀ f, m < f → ∃ I' P', G_X11_longest_21 N T h (nI k) t f b u (nI i) I P = some (aimS (fun j => FR C L (C (4 * j + 1)) j h (nI k) t 2) m i b u, I', P') ∧ Sc I I' ∧ Ps P P' := by
  intro m
  induction m with
  | zero =>
    intro i b u I P hC e1 e2 hi f hf
    obtain ⟨f, rfl⟩ : ∃ g, f = g + 1 := ⟨f - 1, by omega⟩
    have := hC.1
    refine ⟨I, P, ?_, Sc.re _, Ps.re _⟩
    rw [G_X11_longest_21, hC.2.1, if_pos (nI_le (by omega) (by omega))]
    rfl
  | succ m ih =>
    intro i b u I P hC e1 e2 hi f hf
    obtain ⟨f, rfl⟩ : ∃ g, f = g + 1 := ⟨f - 1, by omega⟩
    have h6 := hC.1
    obtain ⟨c, I1, hc, hr, eb, f1, f2, q⟩ := b_go hC (a := 89) (by decide) (j := i) (by omega) hg
    have hrc := hr.1
    obtain ⟨I2, e3, i1, i2⟩ := x_runOut hN (T := T) (I := I1) (P := up2 P 89 0 (some c)) (a := 89) (b := 67) (c := c) (up2_s _ _ _ _) (hr.fr (fun x hx _ => f1 x (by omega))) (by decide) (by decide) f2 q hk rfl ht
    rw [f1 67 (by decide), e1, e2] at e3 i2
    have i2' : EqF (I2 89) (FR C L (C (4 * i + 1)) i h (nI k) t) := i2
    have sc1 : Sc I I2 := Sc.of1 (a := 89) (by decide) (by decide) (fun x hx => (i1 x hx).trans (f1 x hx))
    have hC2 := hC.sc sc1 (Ps.s89 (c := some c))
    have s2 : I2 102 = C := by rw [sc1.1 102 (by decide) (by decide)]; exact e1
    have s3 : I2 67 = L := by rw [sc1.1 67 (by decide) (by decide)]; exact e2
    rw [G_X11_longest_21, hC.2.1, if_neg (nI_ge (by omega) (by omega)), eb]
    simp only [Option.bind_some]
    rw [e3]
    simp only [Option.bind_some, letb]
    rw [i2' 2 (by decide) (by decide), nI_1]
    unfold aimS
    by_cases d : FR C L (C (4 * i + 1)) i h (nI k) t 2 ≤ u
    · rw [if_pos d, if_pos d]
      obtain ⟨I3, P3, e5, sc3, ps3⟩ := ih (i + 1) b u I2 (up2 P 89 0 (some c)) hC2 s2 s3 (by omega) f (by omega)
      exact ⟨I3, P3, e5, sc1.tr sc3, Ps.s89.tr ps3⟩
    · rw [if_neg d, if_neg d]
      obtain ⟨I3, P3, e5, sc3, ps3⟩ := ih (i + 1) (nI i) (FR C L (C (4 * i + 1)) i h (nI k) t 2) I2 (up2 P 89 0 (some c)) hC2 s2 s3 (by omega) f (by omega)
      exact ⟨I3, P3, e5, sc1.tr sc3, Ps.s89.tr ps3⟩
theorem m_lonL {N : Nat} (hN : 400 < N) {n k : Nat} (h6 : n ≤ 6) {h t : Int32} (hk : k < 36) (ht : -9 ≤ t.toInt ∧ t.toInt ≤ 9) {C L : Nat → Int32} (hwd : ∀ j, j < n → ¬ C (4 * j + 2) = 0) : ∀ (m i : Nat) (b u : Int32) (I : IM), SinOK (I 105) → I 102 = C → I 103 = L → I 101 0 = nI n → i + m = n → ∀ f, m < f → ∃ I', G_X12_longest_21 N h (nI k) t f b u (nI i) I = some (aimS (fun j => FR C L (C (4 * j + 1)) j h (nI k) t 2) m i b u, I') ∧ Sc I I' := by
  intro m
  induction m with
  | zero =>
    intro i b u I hs e1 e2 e0 hi f hf
    obtain ⟨f, rfl⟩ : ∃ g, f = g + 1 := ⟨f - 1, by omega⟩
    refine ⟨I, ?_, Sc.re _⟩
    rw [G_X12_longest_21, e0, if_pos (nI_le (by omega) (by omega))]
    rfl
  | succ m ih =>
    intro i b u I hs e1 e2 e0 hi f hf
    obtain ⟨f, rfl⟩ : ∃ g, f = g + 1 := ⟨f - 1, by omega⟩
    obtain ⟨I1, e4, sc1, q1⟩ := m_fallsS hN (I := I) (j := i) (h := h) (t := t) hs (by omega) (by rw [e1]; exact hwd i (by omega)) hk ht
    rw [e1, e2] at e4 q1
    obtain ⟨M, hM, hv, hm4⟩ := FR_VF (C := C) (L := L) (wt := C (4 * i + 1)) (j := i) (h := h) hk rfl ht
    have s1 := sc1.sin hs
    have s2 : I1 102 = C := by rw [sc1.1 102 (by decide) (by decide)]; exact e1
    have s3 : I1 103 = L := by rw [sc1.1 103 (by decide) (by decide)]; exact e2
    have s4 : I1 101 0 = nI n := by rw [sc1.2 0 (by decide)]; exact e0
    have q2 : I1 101 23 = FR C L (C (4 * i + 1)) i h (nI k) t 2 := q1 2 (by decide) (by decide)
    rw [G_X12_longest_21, e0, if_neg (nI_ge (by omega) (by omega)), e4]
    simp only [Option.bind_some, letb]
    have ey : (if (if 0 < FR C L (C (4 * i + 1)) i h (nI k) t 4 then (0 : Int32) else 1) = 0 then 400 else I1 101 23) = FR C L (C (4 * i + 1)) i h (nI k) t 2 := by
      by_cases h4 : 0 < FR C L (C (4 * i + 1)) i h (nI k) t 4
      · rw [if_pos h4, if_pos rfl, hv.2.1, hm4 h4]
        rfl
      · rw [if_neg h4, if_neg (by decide), q2]
    rw [ey, nI_1]
    unfold aimS
    by_cases d : FR C L (C (4 * i + 1)) i h (nI k) t 2 ≤ u
    · rw [if_pos d, if_pos d]
      obtain ⟨I2, e5, sc2⟩ := ih (i + 1) b u I1 s1 s2 s3 s4 (by omega) f (by omega)
      exact ⟨I2, e5, sc1.tr sc2⟩
    · rw [if_neg d, if_neg d]
      obtain ⟨I2, e5, sc2⟩ := ih (i + 1) (nI i) (FR C L (C (4 * i + 1)) i h (nI k) t 2) I1 s1 s2 s3 s4 (by omega) f (by omega)
      exact ⟨I2, e5, sc1.tr sc2⟩
theorem q_longest {N : Nat} (hN : 400 < N) (r : Rel s T I J P) (p1 p2 p3 : Int32) : ∃ v I1 I2 P1, F_X11_longest N T I P p1 p2 p3 = some (v, I1, P1) ∧ F_X12_longest N I1 p1 p2 p3 = some (v, I2) ∧ Rel s T I2 J P1 := by
  obtain ⟨n, hC, hz, hL, hH, hA⟩ := r.now
  have h6 := hC.1
  rcases letgo_1 (h := p1) (s := p2) (t := p3) with g | ⟨g, hh, ⟨k, hk, rfl⟩, ht⟩
  · refine ⟨-1, I, I, P, ?_, ?_, r⟩
    · unfold F_X11_longest; rw [letgo_eq, g]; rfl
    · unfold F_X12_longest; rw [g]; rfl
  · obtain ⟨I1, P1, e1, sc1, ps1⟩ := x_lonL (C := I 102) (L := I 67) hN hk g ht n 0 (-3) 0 I P hC rfl rfl (by omega) N (by omega)
    obtain ⟨I2, e2, sc2⟩ := m_lonL (C := I 102) (L := I 103) hN h6 (h := p1) hk ht (fun j hj => by
      obtain ⟨c, -, hr⟩ := hC.2.2.2.1 j hj
      exact hr.wd0.2) n 0 (-3) 0 I1 (sc1.sin r.sin) (sc1.1 102 (by decide) (by decide)) (sc1.1 103 (by decide) (by decide)) (by rw [sc1.2 0 (by decide)]; exact hC.2.2.1) (by omega) N (by omega)
    have eo : aimS (fun j => FR (I 102) (I 67) (I 102 (4 * j + 1)) j p1 (nI k) p3 2) n 0 (-3) 0 = aimS (fun j => FR (I 102) (I 103) (I 102 (4 * j + 1)) j p1 (nI k) p3 2) n 0 (-3) 0 := aimS_congr _ _ _ _ (fun j _ _ => by rw [FR_L hL])
    rw [eo] at e1
    refine ⟨aimS (fun j => FR (I 102) (I 103) (I 102 (4 * j + 1)) j p1 (nI k) p3 2) n 0 (-3) 0, I1, I2, P1, ?_, ?_, r.sc (sc1.tr sc2) ps1⟩
    · unfold F_X11_longest
      rw [letgo_eq, g, if_neg (by decide)]
      exact e1
    · unfold F_X12_longest
      rw [g, if_neg (by decide)]
      exact e2
end
