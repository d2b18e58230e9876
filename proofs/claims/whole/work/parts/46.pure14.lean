section
variable {s : Nat} {T : TM} {I I' I'' : IM} {J : JM} {P P' P'' : PM}
theorem nI_m1 (n : Nat) : nI (n + 1) - 1 = nI n := by
  rw [← nI_1]
  exact Int32.add_sub_cancel _ _
theorem abs_bare (d : Int32) : (if 0 ≤ d then d else 0 - d) = F_X12_bare d := by
  unfold F_X12_bare
  by_cases h : 0 ≤ d
  · simp [h]
  · have : d < 0 := Int32.not_le.mp h
    simp [h]
theorem isFall_1 {I : IM} {p h s t : Int32} (g : F_X12_isFall I p h s t = 1) : F_X12_isCard I p = 1 ∧ F_X12_isLetGo h s t = 1 := by
  unfold F_X12_isFall at g
  rcases letgo_1 (h := h) (s := s) (t := t) with z | ⟨z, -⟩
  · rw [z] at g
    simp at g
  · refine ⟨?_, z⟩
    rw [z] at g
    unfold F_X12_isCard at g ⊢
    rcases in0 p 0 (I 101 0 - 1) (a := 0) rfl rfl with ⟨q, -⟩ | ⟨q, -⟩
    · rw [q] at g; simp at g
    · exact q
theorem letgo_k {h s t : Int32} {k : Nat} (hk : k < 36) (g : F_X12_isLetGo h s t = 1) : F_X12_isLetGo h (nI k) t = 1 := by
  rcases letgo_1 (h := h) (s := s) (t := t) with z | ⟨-, h1, -, h2, h3⟩
  · rw [z] at g
    exact absurd g (by decide)
  · unfold F_X12_isLetGo
    rw [in1 (a := 1) (b := 9999) rfl rfl h1, in1 (a := 0) (b := 35) rfl rfl (by rw [nI_toInt (by omega)]; omega), in1 (a := -9) (b := 9) (by decide) rfl ⟨h2, h3⟩]
    rfl
theorem isCard_j {T : TM} {I : IM} {P : PM} {n : Nat} (hC : CR T I (P 66) (I 65 1) (I 101 0) (I 102) n) {j : Nat} (hj : j < n) : F_X12_isCard I (nI j) = 1 := by
  unfold F_X12_isCard
  have hs : (I 101 0 - 1).toInt = (n : Int) - 1 := by rw [hC.2.2.1]; exact nI_sub1 (by have := hC.1; omega)
  exact in1 (a := 0) (b := (n : Int) - 1) rfl hs (by rw [nI_toInt (by have := hC.1; omega)]; omega)
theorem isFall_j {T : TM} {I : IM} {P : PM} {n : Nat} (hC : CR T I (P 66) (I 65 1) (I 101 0) (I 102) n) {j : Nat} (hj : j < n) {h s t : Int32} (hg : F_X12_isLetGo h s t = 1) : F_X12_isFall I (nI j) h s t = 1 := by
  unfold F_X12_isFall
  rw [isCard_j hC hj, hg]
  rfl
/-- a letting go of a card that is there -/
theorem b_go {T : TM} {I : IM} {P : PM} {n : Nat} (hC : CR T I (P 66) (I 65 1) (I 101 0) (I 102) n) {a : Nat} (ha : a < 124) {j : Nat} (hj : j < n) {h s t : Int32} (hg : F_X12_isLetGo h s t = 1) : ∃ c I', P 66 j = some c ∧ CardR T I c j (I 102 (4 * j)) (I 102 (4 * j + 1)) (I 102 (4 * j + 2)) (I 102 (4 * j + 3)) ∧ F_X11_begin T I P a (nI j) h s t = some (1, I', up2 P a 0 (some c)) ∧ (∀ x, x ≠ a → I' x = I x) ∧ I' a 1 = I 102 (4 * j + 1) ∧ EqF (I' a) (st0 h s t) := by
  rcases b_begin hC ha (nI j) h s t with ⟨g1, -⟩ | ⟨g1, j', k', c, I1, hj', hp, hk', hs', ht, hc, hr, e2, f1, f2, q⟩
  · rw [isFall_j hC hj hg] at g1
    exact absurd g1 (by decide)
  · have hjj : j = j' := (nI_eq (by have := hC.1; omega) (by have := hC.1; omega)).mp hp
    subst hjj
    exact ⟨c, I1, hc, hr, e2, f1, f2, q⟩
section
variable {kd wt wd cl : Int32} {L M : Nat → Int32}
theorem m_filmL {N b1 : Nat} (hb : b1 = 111 ∨ b1 = 112) (hw : ¬ wd = 0) : ∀ (m n : Nat) (I : IM), m + n = 400 → VF n (mrow I) → SinOK (I 105) → I 101 19 = kd → I 101 20 = wt → I 101 21 = wd → I 101 22 = cl → I 103 = L → ∀ f, m < f → ∃ I', G_X12_films_10 N b1 400 f I = some (nI (n + cntF kd wt wd cl L m (mrow I)), I') ∧ (∀ a, a ≠ 101 → a ≠ b1 → I' a = I a) ∧ (∀ j, j < 23 ∨ 31 < j → I' 101 j = I 101 j) ∧ (∀ k, k < cntF kd wt wd cl L m (mrow I) → I' b1 (n + k) = itF kd wt wd cl L (k + 1) (mrow I) 3) ∧ (∀ k, k < n → I' b1 k = I b1 k) := by
  have b101 : b1 ≠ 101 := by omega
  have b103 : 103 ≠ b1 := by omega
  have b105 : 105 ≠ b1 := by omega
  intro m
  induction m with
  | zero =>
    intro n I hmn v hs e1 e2 e3 e4 e5 f hf
    obtain ⟨f, rfl⟩ : ∃ g, f = g + 1 := ⟨f - 1, by omega⟩
    have h23 : I 101 23 = nI n := v.2.1
    have h400 : (400 : Int32) ≤ I 101 23 := by
      rw [h23, show n = 400 by omega]
      decide
    refine ⟨I, ?_, fun _ _ _ => rfl, fun _ _ => rfl, fun k hk => absurd hk (Nat.not_lt_zero k), fun _ _ => rfl⟩
    rw [G_X12_films_10]
    simp only [h400, if_true, ite_self]
    rw [h23]
    rfl
  | succ m ih =>
    intro n I hmn v hs e1 e2 e3 e4 e5 f hf
    obtain ⟨f, rfl⟩ : ∃ g, f = g + 1 := ⟨f - 1, by omega⟩
    have h23 : I 101 23 = nI n := v.2.1
    rw [G_X12_films_10]
    by_cases h4 : 0 < I 101 25
    · have hl : F_X12_isLanded I = 0 := by unfold F_X12_isLanded; rw [if_pos h4]
      have h400 : ¬ (400 : Int32) ≤ I 101 23 := by
        rw [h23]
        exact nI_ge (a := n) (b := 400) (by omega) (by decide)
      obtain ⟨I1, hI1, f1, f2, hrow, v1⟩ := m_tickR hs (by rw [e3]; exact hw) v (by omega)
      rw [e1, e2, e3, e4, e5] at hrow
      have h24 : I1 101 23 = nI (n + 1) := v1.2.1
      have hIr : mrow (up2 I1 b1 n (I1 101 24)) = mrow I1 := by
        funext i
        unfold mrow
        rw [up2_oth _ _ _ b101.symm]
      obtain ⟨I2, hI2, g1, g2, g3, g4⟩ := ih (n + 1) (up2 I1 b1 n (I1 101 24)) (by omega) (by rw [hIr]; exact v1) (by rw [up2_oth _ _ _ b105, f1 105 (by decide)]; exact hs) (by rw [up2_oth _ _ _ b101.symm, f2 19 (by decide)]; exact e1) (by rw [up2_oth _ _ _ b101.symm, f2 20 (by decide)]; exact e2) (by rw [up2_oth _ _ _ b101.symm, f2 21 (by decide)]; exact e3) (by rw [up2_oth _ _ _ b101.symm, f2 22 (by decide)]; exact e4) (by rw [up2_oth _ _ _ b103, f1 103 (by decide)]; exact e5) f (by omega)
      rw [hIr] at hI2 g3
      have hk : cntF kd wt wd cl L (m + 1) (mrow I) = cntF kd wt wd cl L m (mrow I1) + 1 := by
        rw [hrow]
        exact if_pos h4
      rw [hk, show n + (cntF kd wt wd cl L m (mrow I1) + 1) = n + 1 + cntF kd wt wd cl L m (mrow I1) by omega]
      refine ⟨I2, ?_, fun a ha hb => by rw [g1 a ha hb, up2_oth _ _ _ hb, f1 a ha], fun i hi => by rw [g2 i hi, up2_oth _ _ _ b101.symm, f2 i hi], fun k hk => ?_, fun k hk => ?_⟩
      · rw [if_pos hl, if_neg h400, hI1]
        simp only [Option.bind_some]
        rw [h24, nI_m1, if_pos (inbN (by omega) (by decide)), nI_clamp (by omega)]
        exact hI2
      · rcases Nat.eq_zero_or_pos k with rfl | hk0
        · rw [Nat.add_zero, g4 n (by omega), up2_s]
          show mrow I1 3 = _
          rw [hrow]
          rfl
        · have := g3 (k - 1) (by omega)
          rw [show n + 1 + (k - 1) = n + k by omega, show k - 1 + 1 = k by omega, hrow] at this
          exact this
      · rw [g4 k (by omega), up2_row]
        simp only [show k ≠ n by omega, if_false]
        rw [f1 b1 b101]
    · have hl : F_X12_isLanded I = 1 := by unfold F_X12_isLanded; rw [if_neg h4]
      have hk : cntF kd wt wd cl L (m + 1) (mrow I) = 0 := if_neg h4
      rw [hk]
      refine ⟨I, ?_, fun _ _ _ => rfl, fun _ _ => rfl, fun k hk => absurd hk (Nat.not_lt_zero k), fun _ _ => rfl⟩
      rw [hl, if_neg (by decide), h23]
      rfl
end
def cntJ (C L : Nat → Int32) (wt : Int32) (j : Nat) (h s t : Int32) : Nat := cntF (C (4 * j)) wt (C (4 * j + 2)) (C (4 * j + 3)) L 400 (st0 h s t)
def itJ (C L : Nat → Int32) (wt : Int32) (j : Nat) (h s t : Int32) (k : Nat) : Nat → Int32 := itF (C (4 * j)) wt (C (4 * j + 2)) (C (4 * j + 3)) L k (st0 h s t)
theorem cntJ_le {C L : Nat → Int32} {wt : Int32} {j : Nat} {h s t : Int32} : cntJ C L wt j h s t ≤ 400 := cntF_le _ _
theorem m_films {N b1 : Nat} (hb : b1 = 111 ∨ b1 = 112) (hN : 400 < N) {I : IM} {j k : Nat} {h s t : Int32} (hs : SinOK (I 105)) (hj : j < 6) (hwd : ¬ I 102 (4 * j + 2) = 0) (hk : k < 36) (hsk : s = nI k) (ht : -9 ≤ t.toInt ∧ t.toInt ≤ 9) : ∃ I', F_X12_films N I b1 400 (nI j) h s t = some (nI (cntJ (I 102) (I 103) (I 102 (4 * j + 1)) j h s t), I') ∧ (∀ a, a ≠ 101 → a ≠ b1 → I' a = I a) ∧ (∀ i, i < 19 ∨ 31 < i → I' 101 i = I 101 i) ∧ (∀ k, k < cntJ (I 102) (I 103) (I 102 (4 * j + 1)) j h s t → I' b1 k = itJ (I 102) (I 103) (I 102 (4 * j + 1)) j h s t (k + 1) 3) := by
  obtain ⟨I1, e, f1, f2, c0, c1, c2, c3, q⟩ := m_lends (I := I) hj h s t
  obtain ⟨I2, e2, g1, g2, g3, -⟩ := m_filmL (N := N) hb (kd := I 102 (4 * j)) (wt := I 102 (4 * j + 1)) (wd := I 102 (4 * j + 2)) (cl := I 102 (4 * j + 3)) (L := I 103) hwd 400 0 I1 rfl (VF.congr q.sy (st0_VF hk hsk ht)) (by rw [f1 105 (by decide)]; exact hs) c0 c1 c2 c3 (f1 103 (by decide)) N hN
  rw [cntF_A _ q.a, Nat.zero_add] at e2
  rw [cntF_A _ q.a] at g3
  refine ⟨I2, ?_, fun a ha hb => (g1 a ha hb).trans (f1 a ha), fun i hi => (g2 i (by omega)).trans (f2 i hi), fun k hk => ?_⟩
  · unfold F_X12_films
    rw [e]
    exact e2
  · have := g3 k hk
    rw [Nat.zero_add] at this
    rw [this]
    exact itF_A (kd := I 102 (4 * j)) (wt := I 102 (4 * j + 1)) (wd := I 102 (4 * j + 2)) (cl := I 102 (4 * j + 3)) (L := I 103) (k + 1) q.a 3 (by decide) (by decide)
section
variable {kd wt wd cl : Int32} {L M : Nat → Int32}
def ptF (kd wt wd cl : Int32) (L : Nat → Int32) (far : Int32) : Nat → Nat → (Nat → Int32) → (Nat → Int32) → Int32
  | 0, _, _, _ => -3
  | m + 1, i, φ, ψ => if 0 < φ 4 then (if 0 < ψ 4 then (if F_X12_bare (fstep kd wt wd cl L φ 3 - fstep kd wt wd cl L ψ 3) ≤ far then ptF kd wt wd cl L far m (i + 1) (fstep kd wt wd cl L φ) (fstep kd wt wd cl L ψ) else nI (i + 1)) else -3) else -3
theorem ptF_A {far : Int32} : ∀ (m i : Nat) {φ φ' ψ ψ' : Nat → Int32}, EqA φ φ' → EqA ψ ψ' → ptF kd wt wd cl L far m i φ ψ = ptF kd wt wd cl L far m i φ' ψ' := by
  intro m
  induction m with
  | zero => intro i φ φ' ψ ψ' _ _; rfl
  | succ m ih =>
    intro i φ φ' ψ ψ' h1 h2
    have g1 := fstepA (kd := kd) (wt := wt) (wd := wd) (cl := cl) (L := L) h1
    have g2 := fstepA (kd := kd) (wt := wt) (wd := wd) (cl := cl) (L := L) h2
    unfold ptF
    rw [h1 4 (by decide) (by decide), h2 4 (by decide) (by decide), g1 3 (by decide) (by decide), g2 3 (by decide) (by decide), ih _ g1 g2]
theorem ptF_L {far : Int32} (h : EqL L M) : ∀ (m i : Nat) (φ ψ : Nat → Int32), ptF kd wt wd cl L far m i φ ψ = ptF kd wt wd cl M far m i φ ψ := by
  intro m
  induction m with
  | zero => intro i φ ψ; rfl
  | succ m ih => intro i φ ψ; unfold ptF; rw [fstep_L h, fstep_L h, ih]
theorem x_partL {N : Nat} {T : TM} {P : PM} {c : Nat} {far : Int32} (hP : P 89 0 = some c) (hP2 : P 90 0 = some c) (hc : isF T c = true) (hK : kmapR (T.2.1 c) kd) (hca : 124 ≤ c) (hw : ¬ wd ≤ 0) : ∀ (m i : Nat) (I : IM), VF i (I 89) → VF i (I 90) → i + m = 400 → I 89 1 = wt → I 90 1 = wt → I c 2 = wd → I c 3 = cl → I 67 = L → ∀ f, m < f → ∃ I', G_X11_parted_53 N T P far f (nI i) I = some (ptF kd wt wd cl L far m i (I 89) (I 90), I', P) ∧ (∀ x, x ≠ 89 → x ≠ 90 → I' x = I x) := by
  intro m
  induction m with
  | zero =>
    intro i I v v2 hi e1 e1' e2 e3 e4 f hf
    obtain ⟨f, rfl⟩ : ∃ g, f = g + 1 := ⟨f - 1, by omega⟩
    refine ⟨I, ?_, fun _ _ _ => rfl⟩
    rw [G_X11_parted_53, if_pos (by rw [show i = 400 by omega]; decide)]
    rfl
  | succ m ih =>
    intro i I v v2 hi e1 e1' e2 e3 e4 f hf
    obtain ⟨f, rfl⟩ : ∃ g, f = g + 1 := ⟨f - 1, by omega⟩
    have h400 : ¬ (400 : Int32) ≤ nI i := nI_ge (a := i) (b := 400) (by omega) (by decide)
    rw [G_X11_parted_53, if_neg h400]
    unfold ptF
    by_cases h4 : 0 < I 89 4
    · have hl : F_X1_landed I 89 = 0 := by unfold F_X1_landed; rw [if_pos h4]
      rw [if_pos hl, if_pos h4]
      by_cases h5 : 0 < I 90 4
      · have hl2 : F_X1_landed I 90 = 0 := by unfold F_X1_landed; rw [if_pos h5]
        rw [if_pos hl2, if_pos h5]
        obtain ⟨I1, hI1, f1, hrow, v1⟩ := x_tick (b := 67) hP hc hK (by rw [e2]; exact hw) (by decide) (by omega) v (by omega)
        rw [e1, e2, e3, e4] at hrow
        have r90 := f1 90 (by decide)
        obtain ⟨I2, hI2, f2, hrow2, v3⟩ := x_tick (I := I1) (b := 67) hP2 hc hK (by rw [f1 c (by omega), e2]; exact hw) (by decide) (by omega) (by rw [r90]; exact v2) (by omega)
        rw [r90, e1', f1 c (by omega), e2, e3, f1 67 (by decide), e4] at hrow2
        have r89 : I2 89 = fstep kd wt wd cl L (I 89) := by rw [f2 89 (by decide), hrow]
        obtain ⟨I3, hI3, g1⟩ := ih (i + 1) I2 (by rw [f2 89 (by decide)]; exact v1) v3 (by omega) (by rw [r89, fstep_1]; exact e1) (by rw [hrow2, fstep_1]; exact e1') (by rw [f2 c (by omega), f1 c (by omega)]; exact e2) (by rw [f2 c (by omega), f1 c (by omega)]; exact e3) (by rw [f2 67 (by decide), f1 67 (by decide)]; exact e4) f (by omega)
        rw [hI1]
        simp only [Option.bind_some]
        rw [hI2]
        simp only [Option.bind_some]
        rw [abs_bare, r89, hrow2]
        rw [r89, hrow2] at hI3
        by_cases d : F_X12_bare (fstep kd wt wd cl L (I 89) 3 - fstep kd wt wd cl L (I 90) 3) ≤ far
        · rw [if_pos d, if_pos d, nI_1]
          exact ⟨I3, hI3, fun x a b => by rw [g1 x a b, f2 x b, f1 x a]⟩
        · have ht : fstep kd wt wd cl L (I 89) 2 = nI (i + 1) := by rw [← hrow]; exact v1.2.1
          rw [if_neg d, if_neg d, ht]
          exact ⟨I2, rfl, fun x a b => by rw [f2 x b, f1 x a]⟩
      · have hl2 : F_X1_landed I 90 = 1 := by unfold F_X1_landed; rw [if_neg h5]
        rw [hl2, if_neg (by decide), if_neg h5]
        exact ⟨I, rfl, fun _ _ _ => rfl⟩
    · have hl : F_X1_landed I 89 = 1 := by unfold F_X1_landed; rw [if_neg h4]
      rw [hl, if_neg (by decide), if_neg h4]
      exact ⟨I, rfl, fun _ _ _ => rfl⟩
theorem m_partL {N : Nat} {I : IM} {far : Int32} : ∀ (m k : Nat) (φ ψ : Nat → Int32), k + m = 400 → (∀ t, t < cntF kd wt wd cl L m φ → I 111 (k + t) = itF kd wt wd cl L (t + 1) φ 3) → (∀ t, t < cntF kd wt wd cl L m ψ → I 112 (k + t) = itF kd wt wd cl L (t + 1) ψ 3) → ∀ f, m < f → G_X12_parted_64 N I far (nI (k + cntF kd wt wd cl L m φ)) (nI (k + cntF kd wt wd cl L m ψ)) f (nI k) = some (ptF kd wt wd cl L far m k φ ψ, I) := by
  intro m
  induction m with
  | zero =>
    intro k φ ψ hk h1 h2 f hf
    obtain ⟨f, rfl⟩ : ∃ g, f = g + 1 := ⟨f - 1, by omega⟩
    rw [G_X12_parted_64, show cntF kd wt wd cl L 0 φ = 0 from rfl, if_pos (nI_le (by omega) (by omega))]
    rfl
  | succ m ih =>
    intro k φ ψ hk h1 h2 f hf
    obtain ⟨f, rfl⟩ : ∃ g, f = g + 1 := ⟨f - 1, by omega⟩
    rw [G_X12_parted_64]
    unfold ptF
    by_cases h4 : 0 < φ 4
    · have hc1 : cntF kd wt wd cl L (m + 1) φ = cntF kd wt wd cl L m (fstep kd wt wd cl L φ) + 1 := if_pos h4
      have hle := cntF_le (kd := kd) (wt := wt) (wd := wd) (cl := cl) (L := L) m (fstep kd wt wd cl L φ)
      rw [hc1] at h1 ⊢
      rw [if_neg (nI_ge (by omega) (by omega)), if_pos h4]
      by_cases h5 : 0 < ψ 4
      · have hc2 : cntF kd wt wd cl L (m + 1) ψ = cntF kd wt wd cl L m (fstep kd wt wd cl L ψ) + 1 := if_pos h5
        have hle2 := cntF_le (kd := kd) (wt := wt) (wd := wd) (cl := cl) (L := L) m (fstep kd wt wd cl L ψ)
        rw [hc2] at h2 ⊢
        rw [if_neg (nI_ge (by omega) (by omega)), if_pos h5, if_pos (inbN (by omega) (by decide)), if_pos (inbN (by omega) (by decide)), nI_clamp (by omega)]
        have q1 : I 111 k = fstep kd wt wd cl L φ 3 := h1 0 (by omega)
        have q2 : I 112 k = fstep kd wt wd cl L ψ 3 := h2 0 (by omega)
        rw [q1, q2, nI_1]
        by_cases d : F_X12_bare (fstep kd wt wd cl L φ 3 - fstep kd wt wd cl L ψ 3) ≤ far
        · rw [if_pos d, if_pos d, show k + (cntF kd wt wd cl L m (fstep kd wt wd cl L φ) + 1) = k + 1 + cntF kd wt wd cl L m (fstep kd wt wd cl L φ) by omega, show k + (cntF kd wt wd cl L m (fstep kd wt wd cl L ψ) + 1) = k + 1 + cntF kd wt wd cl L m (fstep kd wt wd cl L ψ) by omega]
          refine ih (k + 1) _ _ (by omega) (fun t ht => ?_) (fun t ht => ?_) f (by omega)
          · have := h1 (t + 1) (by omega)
            rw [show k + (t + 1) = k + 1 + t by omega] at this
            exact this
          · have := h2 (t + 1) (by omega)
            rw [show k + (t + 1) = k + 1 + t by omega] at this
            exact this
        · rw [if_neg d, if_neg d]
      · have hc2 : cntF kd wt wd cl L (m + 1) ψ = 0 := if_neg h5
        rw [hc2, if_neg h5, if_pos (nI_le (by omega) (by omega))]
    · have hc1 : cntF kd wt wd cl L (m + 1) φ = 0 := if_neg h4
      rw [hc1, if_neg h4, if_pos (nI_le (by omega) (by omega))]
end
theorem q_parted {N : Nat} (hN : 400 < N) (r : Rel s T I J P) (p1 p2 p3 p4 p5 : Int32) : ∃ v I1 I2 P1, F_X11_parted N T I P p1 p2 p3 p4 p5 = some (v, I1, P1) ∧ F_X12_parted N I1 p1 p2 p3 p4 p5 = some (v, I2) ∧ Rel s T I2 J P1 := by
  obtain ⟨n, hC, hz, hL, hH, hA⟩ := r.now
  have h6 := hC.1
  rcases in0 p5 0 9999 (a := 0) (b := 9999) rfl rfl with ⟨g, h⟩ | ⟨g, h⟩
  · refine ⟨-1, I, I, P, ?_, ?_, r⟩
    · unfold F_X11_parted
      simp only [Int32.lt_iff_toInt_lt, Int32.reduceToInt]
      by_cases a1 : p5.toInt < 0
      · rw [if_pos a1]
      · rw [if_neg a1, if_pos (by omega)]
    · unfold F_X12_parted
      rw [g]
      simp
  · have ex : F_X11_parted N T I P p1 p2 p3 p4 p5 = ((F_X11_begin T I P 89 p1 p2 p3 p4).bind (fun x3 => (if x3.1 = 0 then (some ((-1), x3.2.1, x3.2.2)) else ((F_X11_begin T x3.2.1 x3.2.2 90 p1 p2 ((p3 + 1) - (p3 + 1) / 36 * 36) p4).bind (fun x5 => (G_X11_parted_53 N T x5.2.2 p5 N 0 x5.2.1)))))) := by
      unfold F_X11_parted
      simp only [Int32.lt_iff_toInt_lt, Int32.reduceToInt]
      rw [if_neg (by omega), if_neg (by omega)]
    rcases b_begin hC (a := 89) (by decide) p1 p2 p3 p4 with ⟨g1, g2⟩ | ⟨g1, j, k, c, I1, hj, hp, hk, hs, ht, hc, hr, e2, f1, f2, q⟩
    · refine ⟨-1, I, I, P, ?_, ?_, r⟩
      · rw [ex, g2]; rfl
      · unfold F_X12_parted; rw [g1]; rfl
    · subst hp
      have hk2 : (k + 1) % 36 < 36 := Nat.mod_lt _ (by decide)
      have hg2 := letgo_k hk2 (isFall_1 g1).2
      have en : (p3 + 1) - (p3 + 1) / 36 * 36 = nI ((k + 1) % 36) := by rw [hs]; exact next36 k hk
      have sc0 : Sc I I1 := Sc.of1 (a := 89) (by decide) (by decide) f1
      obtain ⟨c', I2, hc2, hr2, e3, i1, i2, q2⟩ := b_go (hC.sc sc0 Ps.s89) (a := 90) (by decide) hj hg2
      have hcc : c' = c := by
        have hc3 : P 66 j = some c' := by rw [← hc2, up2_oth P 0 (some c) (show (66 : Nat) ≠ 89 by decide)]
        rw [hc] at hc3
        exact (Option.some.inj hc3).symm
      subst hcc
      have hc124 := hr.1
      have r89 : I2 89 = I1 89 := i1 89 (by decide)
      rw [sc0.1 102 (by decide) (by decide)] at i2
      obtain ⟨I3, e4, l1⟩ := x_partL (N := N) (kd := I 102 (4 * j)) (wt := I 102 (4 * j + 1)) (wd := I 102 (4 * j + 2)) (cl := I 102 (4 * j + 3)) (L := I 67) (T := T) (P := up2 (up2 P 89 0 (some c')) 90 0 (some c')) (c := c') (far := p5) rfl rfl hr.2.1 hr.2.2.1 hr.1 hr.wd0.1 400 0 I2 (by rw [r89]; exact VF.congr q.sy (st0_VF hk hs ht)) (VF.congr q2.sy (st0_VF hk2 rfl ht)) rfl (by rw [r89]; exact f2) i2 (by rw [i1 c' (by omega), f1 c' (by omega)]; exact hr.2.2.2.2.2.1) (by rw [i1 c' (by omega), f1 c' (by omega)]; exact hr.2.2.2.2.2.2.1) (by rw [i1 67 (by decide), f1 67 (by decide)]) N hN
      rw [r89, ptF_A _ _ q.a q2.a] at e4
      have sc1 : Sc I I3 := ⟨fun x hx _ => by
        have a1 : x ≠ 89 := fun e => hx (by rw [e]; decide)
        have a2 : x ≠ 90 := fun e => hx (by rw [e]; decide)
        rw [l1 x a1 a2, i1 x a2, f1 x a1], fun i _ => by rw [l1 101 (by decide) (by decide), i1 101 (by decide), f1 101 (by decide)]⟩
      obtain ⟨I4, e5, k1, k2, k3⟩ := m_films (N := N) (b1 := 111) (Or.inl rfl) hN (I := I3) (j := j) (h := p2) (s := p3) (t := p4) (sc1.sin r.sin) (by omega) (by rw [sc1.1 102 (by decide) (by decide)]; exact hr.wd0.2) hk hs ht
      rw [sc1.1 102 (by decide) (by decide), sc1.1 103 (by decide) (by decide)] at e5 k3
      obtain ⟨I5, e6, l2, l3, l4⟩ := m_films (N := N) (b1 := 112) (Or.inr rfl) hN (I := I4) (j := j) (h := p2) (s := nI ((k + 1) % 36)) (t := p4) (by rw [k1 105 (by decide) (by decide)]; exact sc1.sin r.sin) (by omega) (by rw [k1 102 (by decide) (by decide), sc1.1 102 (by decide) (by decide)]; exact hr.wd0.2) hk2 rfl ht
      rw [k1 102 (by decide) (by decide), k1 103 (by decide) (by decide), sc1.1 102 (by decide) (by decide), sc1.1 103 (by decide) (by decide)] at e6 l4
      have sc2 : Sc I3 I5 := ⟨fun x hx h1 => by
        have a1 : x ≠ 111 := fun e => hx (by rw [e]; decide)
        have a2 : x ≠ 112 := fun e => hx (by rw [e]; decide)
        rw [l2 x h1 a2, k1 x h1 a1], fun i hi => by
        have := (scm_of hi).1
        rw [l3 i (by omega), k2 i (by omega)]⟩
      have e7 := m_partL (N := N) (I := I5) (far := p5) (kd := I 102 (4 * j)) (wt := I 102 (4 * j + 1)) (wd := I 102 (4 * j + 2)) (cl := I 102 (4 * j + 3)) (L := I 103) 400 0 (st0 p2 p3 p4) (st0 p2 (nI ((k + 1) % 36)) p4) rfl (fun t ht => by rw [Nat.zero_add, l2 111 (by decide) (by decide)]; exact k3 t ht) (fun t ht => by rw [Nat.zero_add]; exact l4 t ht) N hN
      simp only [Nat.zero_add] at e7
      rw [ptF_L hL] at e4
      refine ⟨ptF (I 102 (4 * j)) (I 102 (4 * j + 1)) (I 102 (4 * j + 2)) (I 102 (4 * j + 3)) (I 103) p5 400 0 (st0 p2 p3 p4) (st0 p2 (nI ((k + 1) % 36)) p4), I3, I5, up2 (up2 P 89 0 (some c')) 90 0 (some c'), ?_, ?_, r.sc (sc1.tr sc2) (Ps.s89.tr Ps.s90)⟩
      · rw [ex, e2]
        simp only [Option.bind_some]
        rw [if_neg (by decide), en, e3]
        exact e4
      · have gf : F_X12_isFall I3 (nI j) p2 p3 p4 = 1 := by
          rw [← g1]
          unfold F_X12_isFall F_X12_isCard
          rw [sc1.2 0 (by decide)]
        unfold F_X12_parted
        rw [gf, g, if_neg (by decide), if_neg (by decide), e5]
        simp only [Option.bind_some]
        rw [en, e6]
        exact e7
end
