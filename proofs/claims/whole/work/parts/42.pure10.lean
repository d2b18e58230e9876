section
variable {s : Nat} {T : TM} {I : IM} {J : JM} {P : PM}
def cntF (kd wt wd cl : Int32) (L : Nat → Int32) : Nat → (Nat → Int32) → Nat
  | 0, _ => 0
  | n + 1, φ => if 0 < φ 4 then cntF kd wt wd cl L n (fstep kd wt wd cl L φ) + 1 else 0
def itF (kd wt wd cl : Int32) (L : Nat → Int32) : Nat → (Nat → Int32) → (Nat → Int32)
  | 0, φ => φ
  | n + 1, φ => itF kd wt wd cl L n (fstep kd wt wd cl L φ)
section
variable {kd wt wd cl : Int32} {L M : Nat → Int32}
theorem runF_A : ∀ (n : Nat) {φ ψ : Nat → Int32}, EqA φ ψ → EqA (runF kd wt wd cl L n φ) (runF kd wt wd cl L n ψ) := by
  intro n
  induction n with
  | zero => intro φ ψ h; exact h
  | succ n ih =>
    intro φ ψ h
    unfold runF
    rw [h 4 (by decide) (by decide)]
    by_cases h4 : 0 < ψ 4
    · rw [if_pos h4, if_pos h4]
      exact ih (fstepA h)
    · rw [if_neg h4, if_neg h4]
      exact h
theorem cntF_A : ∀ (n : Nat) {φ ψ : Nat → Int32}, EqA φ ψ → cntF kd wt wd cl L n φ = cntF kd wt wd cl L n ψ := by
  intro n
  induction n with
  | zero => intro φ ψ h; rfl
  | succ n ih =>
    intro φ ψ h
    unfold cntF
    rw [h 4 (by decide) (by decide), ih (fstepA h)]
theorem itF_A : ∀ (n : Nat) {φ ψ : Nat → Int32}, EqA φ ψ → EqA (itF kd wt wd cl L n φ) (itF kd wt wd cl L n ψ) := by
  intro n
  induction n with
  | zero => intro φ ψ h; exact h
  | succ n ih => intro φ ψ h; exact ih (fstepA h)
theorem cntF_L (h : EqL L M) : ∀ (n : Nat) (φ : Nat → Int32), cntF kd wt wd cl L n φ = cntF kd wt wd cl M n φ := by
  intro n
  induction n with
  | zero => intro φ; rfl
  | succ n ih => intro φ; unfold cntF; rw [fstep_L h, ih]
theorem itF_L (h : EqL L M) : ∀ (n : Nat) (φ : Nat → Int32), itF kd wt wd cl L n φ = itF kd wt wd cl M n φ := by
  intro n
  induction n with
  | zero => intro φ; rfl
  | succ n ih => intro φ; unfold itF; rw [fstep_L h, ih]
theorem cntF_le : ∀ (n : Nat) (φ : Nat → Int32), cntF kd wt wd cl L n φ ≤ n := by
  intro n
  induction n with
  | zero => intro φ; exact Nat.le_refl _
  | succ n ih =>
    intro φ
    unfold cntF
    split
    · have := ih (fstep kd wt wd cl L φ); omega
    · omega
theorem itF_s : ∀ (n : Nat) (φ : Nat → Int32), itF kd wt wd cl L (n + 1) φ = fstep kd wt wd cl L (itF kd wt wd cl L n φ) := by
  intro n
  induction n with
  | zero => intro φ; rfl
  | succ n ih => intro φ; exact ih (fstep kd wt wd cl L φ)
theorem x_tickL {N : Nat} {T : TM} {P : PM} {c : Nat} (hP : P 69 0 = some c) (hc : isF T c = true) (hK : kmapR (T.2.1 c) kd) (hca : 124 ≤ c) (hw : ¬ wd ≤ 0) : ∀ (m i n : Nat) (I : IM), VF n (I 69) → n + m < 300000 → i + m ≤ 400 → I 69 1 = wt → I c 2 = wd → I c 3 = cl → I 67 = L → ∀ f, m < f → ∃ I', G_X11_tick_31 N T P (nI (i + m)) f (nI i) I = some (nI (i + cntF kd wt wd cl L m (I 69)), I') ∧ (∀ x, x ≠ 69 → I' x = I x) ∧ I' 69 = runF kd wt wd cl L m (I 69) := by
  intro m
  induction m with
  | zero =>
    intro i n I v hn hi e1 e2 e3 e4 f hf
    obtain ⟨f, rfl⟩ : ∃ g, f = g + 1 := ⟨f - 1, by omega⟩
    refine ⟨I, ?_, fun _ _ => rfl, rfl⟩
    rw [G_X11_tick_31, if_pos (nI_le (by omega) (by omega))]
    rfl
  | succ m ih =>
    intro i n I v hn hi e1 e2 e3 e4 f hf
    obtain ⟨f, rfl⟩ : ∃ g, f = g + 1 := ⟨f - 1, by omega⟩
    rw [G_X11_tick_31, if_neg (nI_ge (by omega) (by omega))]
    by_cases h4 : 0 < I 69 4
    · have hl : F_X1_landed I 69 = 0 := by unfold F_X1_landed; rw [if_pos h4]
      obtain ⟨I1, hI1, f1, hrow, v1⟩ := x_tick (b := 67) hP hc hK (by rw [e2]; exact hw) (by decide) (by omega) v (by omega)
      rw [e1, e2, e3, e4] at hrow
      obtain ⟨I2, hI2, g1, g2⟩ := ih (i + 1) (n + 1) I1 v1 (by omega) (by omega) (by rw [hrow, fstep_1]; exact e1) (by rw [f1 c (by omega)]; exact e2) (by rw [f1 c (by omega)]; exact e3) (by rw [f1 67 (by decide)]; exact e4) f (by omega)
      have hr : runF kd wt wd cl L (m + 1) (I 69) = runF kd wt wd cl L m (I1 69) := by
        rw [hrow]
        exact if_pos h4
      have hk : cntF kd wt wd cl L (m + 1) (I 69) = cntF kd wt wd cl L m (I1 69) + 1 := by
        rw [hrow]
        exact if_pos h4
      rw [hr, hk]
      refine ⟨I2, ?_, fun x hx => (g1 x hx).trans (f1 x hx), g2⟩
      rw [if_pos hl, hI1]
      show G_X11_tick_31 N T P (nI (i + (m + 1))) f (nI i + 1) I1 = _
      rw [nI_1, show i + (m + 1) = i + 1 + m by omega, hI2, show i + 1 + cntF kd wt wd cl L m (I1 69) = i + (cntF kd wt wd cl L m (I1 69) + 1) by omega]
    · have hl : F_X1_landed I 69 = 1 := by unfold F_X1_landed; rw [if_neg h4]
      have hr : runF kd wt wd cl L (m + 1) (I 69) = I 69 := if_neg h4
      have hk : cntF kd wt wd cl L (m + 1) (I 69) = 0 := if_neg h4
      rw [hr, hk]
      refine ⟨I, ?_, fun _ _ => rfl, rfl⟩
      rw [hl, if_neg (by decide)]
      rfl
theorem m_tickL {N : Nat} (hw : ¬ wd = 0) : ∀ (m i n : Nat) (I : IM), VF n (mrow I) → n + m < 300000 → i + m ≤ 400 → SinOK (I 105) → I 101 19 = kd → I 101 20 = wt → I 101 21 = wd → I 101 22 = cl → I 103 = L → ∀ f, m < f → ∃ I' I2, G_X12_tick_31 N (nI (i + m)) f (nI i) I = some (nI (i + cntF kd wt wd cl L m (mrow I)), I2) ∧ F_X12_givesAir I' = some I2 ∧ (∀ a, a ≠ 101 → I' a = I a) ∧ (∀ j, j < 23 ∨ 31 < j → I' 101 j = I 101 j) ∧ mrow I' = runF kd wt wd cl L m (mrow I) := by
  intro m
  induction m with
  | zero =>
    intro i n I v hn hi hs e1 e2 e3 e4 e5 f hf
    obtain ⟨f, rfl⟩ : ∃ g, f = g + 1 := ⟨f - 1, by omega⟩
    obtain ⟨I2, h2, -⟩ := m_gives I
    refine ⟨I, I2, ?_, h2, fun _ _ => rfl, fun _ _ => rfl, rfl⟩
    rw [G_X12_tick_31, if_pos (nI_le (by omega) (by omega)), h2]
    rfl
  | succ m ih =>
    intro i n I v hn hi hs e1 e2 e3 e4 e5 f hf
    obtain ⟨f, rfl⟩ : ∃ g, f = g + 1 := ⟨f - 1, by omega⟩
    rw [G_X12_tick_31, if_neg (nI_ge (by omega) (by omega))]
    by_cases h4 : 0 < I 101 25
    · have hl : F_X12_isLanded I = 0 := by unfold F_X12_isLanded; rw [if_pos h4]
      obtain ⟨I1, hI1, f1, f2, hrow, v1⟩ := m_tickR hs (by rw [e3]; exact hw) v (by omega)
      rw [e1, e2, e3, e4, e5] at hrow
      obtain ⟨I2, I3, hI2, g0, g1, g2, g3⟩ := ih (i + 1) (n + 1) I1 v1 (by omega) (by omega) (by rw [f1 105 (by decide)]; exact hs) (by rw [f2 19 (by decide)]; exact e1) (by rw [f2 20 (by decide)]; exact e2) (by rw [f2 21 (by decide)]; exact e3) (by rw [f2 22 (by decide)]; exact e4) (by rw [f1 103 (by decide)]; exact e5) f (by omega)
      have hr : runF kd wt wd cl L (m + 1) (mrow I) = runF kd wt wd cl L m (mrow I1) := by
        rw [hrow]
        exact if_pos h4
      have hk : cntF kd wt wd cl L (m + 1) (mrow I) = cntF kd wt wd cl L m (mrow I1) + 1 := by
        rw [hrow]
        exact if_pos h4
      rw [hr, hk]
      refine ⟨I2, I3, ?_, g0, fun a ha => (g1 a ha).trans (f1 a ha), fun j hj => (g2 j hj).trans (f2 j hj), g3⟩
      rw [if_pos hl, hI1]
      show G_X12_tick_31 N (nI (i + (m + 1))) f (nI i + 1) I1 = _
      rw [nI_1, show i + (m + 1) = i + 1 + m by omega, hI2, show i + 1 + cntF kd wt wd cl L m (mrow I1) = i + (cntF kd wt wd cl L m (mrow I1) + 1) by omega]
    · have hl : F_X12_isLanded I = 1 := by unfold F_X12_isLanded; rw [if_neg h4]
      have hr : runF kd wt wd cl L (m + 1) (mrow I) = mrow I := if_neg h4
      have hk : cntF kd wt wd cl L (m + 1) (mrow I) = 0 := if_neg h4
      rw [hr, hk]
      obtain ⟨I2, h2, -⟩ := m_gives I
      refine ⟨I, I2, ?_, h2, fun _ _ => rfl, fun _ _ => rfl, rfl⟩
      rw [hl, if_neg (by decide), h2]
      rfl
end
theorem scm_of {i : Nat} (hi : i ∉ scm) : (i < 9 ∨ (15 < i ∧ i < 19) ∨ 31 < i) ∧ i ≠ 37 ∧ i ≠ 44 ∧ i ≠ 45 ∧ i ≠ 46 ∧ i ≠ 49 ∧ i ≠ 52 := by
  unfold scm at hi
  simp only [List.mem_cons, List.not_mem_nil, or_false, not_or] at hi
  omega
theorem CardR.wd0 {T : TM} {I : IM} {c j : Nat} {kd wt wd cl : Int32} (h : CardR T I c j kd wt wd cl) : ¬ wd ≤ 0 ∧ ¬ wd = 0 := by
  have := h.2.2.2.2.2.2.2.2.1
  constructor
  · rw [Int32.le_iff_toInt_le]; simp only [Int32.reduceToInt]; omega
  · rintro rfl; revert this; decide
theorem q_tick {N : Nat} (hN : 400 < N) (hs : s ≤ 600) (r : Rel s T I J P) (p : Int32) : ∃ v I1 I2, F_X11_tick N T I P p = some (v, I1) ∧ F_X12_tick N I1 p = some (v, I2) ∧ Rel (s + 1) T I2 J P := by
  obtain ⟨n, hC, hz, hL, hH, hA⟩ := r.now
  have h6n := hC.1
  rcases in0 p 0 400 (a := 0) (b := 400) rfl rfl with ⟨g, h⟩ | ⟨g, h⟩
  · refine ⟨-1, I, I, ?_, ?_, r.mono⟩
    · unfold F_X11_tick
      simp only [Int32.lt_iff_toInt_lt, Int32.le_iff_toInt_le, Int32.reduceToInt]
      by_cases a1 : p.toInt < 0
      · rw [if_pos a1]
      · rw [if_neg a1, if_neg (by omega)]
    · unfold F_X12_tick
      rw [g]
      rfl
  · have ex : F_X11_tick N T I P p = osel (P 69 0) (some ((-4), I)) (fun c3 => (G_X11_tick_31 N T P p N 0 I)) := by
      unfold F_X11_tick
      simp only [Int32.lt_iff_toInt_lt, Int32.le_iff_toInt_le, Int32.reduceToInt]
      rw [if_neg (by omega), if_pos (by omega)]
    have em : ∀ I1 : IM, F_X12_tick N I1 p = (if 0 ≤ (I1 106 0) then ((F_X12_takesAir I1).bind (fun x3 => (G_X12_tick_31 N p N 0 x3))) else (some ((-4), I1))) := by
      intro I1
      unfold F_X12_tick
      rw [g, if_neg (by decide)]
    rcases air_some hC hA with ⟨a1, a2⟩ | ⟨c, j, m, a1, a2, a3, a4, a5, a6, a7, a8, hr⟩
    · exact ⟨-4, I, I, by rw [ex, osel_n a1], by rw [em, a2]; rfl, r.mono⟩
    · obtain ⟨w1, w2⟩ := hr.wd0
      obtain ⟨M, hM, hp⟩ : ∃ M, M ≤ 400 ∧ p = nI M := ⟨p.toInt.toNat, by omega, of_nat h.1⟩
      subst hp
      obtain ⟨I1, e1, f1, f2⟩ := x_tickL (N := N) (T := T) (P := P) (c := c) (L := I 67) a2 hr.2.1 hr.2.2.1 hr.1 w1 M 0 m I a8 (by omega) (by omega) a5 hr.2.2.2.2.2.1 hr.2.2.2.2.2.2.1 rfl N (by omega)
      obtain ⟨I2, e2, k1, k2, c0, c1, c2, c3, k3⟩ := m_takes (I := I1) (j := j) (by omega) (by rw [f1 106 (by decide)]; exact a4)
      rw [f1 102 (by decide)] at c0 c1 c2 c3
      have hA : EqA (mrow I2) (I 69) := fun i h1 h2 => by
        have := k3 (i - 1) (by omega) (by omega)
        rw [show i - 1 + 1 = i by omega, f1 106 (by decide)] at this
        have q := a6 (i - 1) (by omega) (by omega)
        rw [show i - 1 + 1 = i by omega] at q
        rw [this, q]
      obtain ⟨I3, I4, e3, g0, g1, g2, g3⟩ := m_tickL (N := N) (L := I 103) w2 M 0 m I2 (a8.congrA hA.sy) (by omega) (by omega) (by rw [k1 105 (by decide), f1 105 (by decide)]; exact r.sin) c0 c1 c2 c3 (by rw [k1 103 (by decide), f1 103 (by decide)]) N (by omega)
      obtain ⟨I5, h5, l1, l2, l3⟩ := m_gives I3
      rw [g0] at h5
      obtain rfl : I4 = I5 := Option.some.inj h5
      rw [← cntF_L hL, cntF_A M hA] at e3
      simp only [Nat.zero_add] at e1 e3
      refine ⟨nI (cntF (I 102 (4 * j)) (I 102 (4 * j + 1)) (I 102 (4 * j + 2)) (I 102 (4 * j + 3)) (I 67) M (I 69)), I1, I4, ?_, ?_, ?_⟩
      · rw [ex, osel_s a2]
        exact e1
      · rw [em, f1 106 (by decide), a4, if_pos (nI_pos' (by omega)), e2]
        exact e3
      · have x1 : ∀ x, x ≠ 106 → x ≠ 101 → x ≠ 69 → I4 x = I x := fun x b1 b2 b3 => by rw [l1 x b1, g1 x b2, k1 x b2, f1 x b3]
        have x2 : ∀ i, i < 19 ∨ 31 < i → I4 101 i = I 101 i := fun i hi => by rw [l1 101 (by decide), g2 i (by omega), k2 i (by omega), f1 101 (by decide)]
        have x3 : I4 69 = I1 69 := by rw [l1 69 (by decide), g1 69 (by decide), k1 69 (by decide)]
        have f : Fr [69, 106] [] [] scm [] I I4 J J P P := ⟨fun x hx hm _ => by
          simp only [List.mem_cons, List.not_mem_nil, or_false, not_or] at hx
          exact x1 x hx.2 hm hx.1, fun i hi => x2 i (by have := (scm_of hi).1; omega), fun i _ => by rw [x1 64 (by decide) (by decide) (by decide)], fun _ _ => rfl, fun _ _ => rfl⟩
        have r' := r.mono
        refine ⟨r'.t60, fr_sin r'.sin f (by decide), fr_shp r'.shp f (by decide), ?_, fr_kept r'.kept f (by decide), fr_tape r'.tape f (by decide), fr_rows r'.rows f (by decide), fr_sh r'.sh f (by decide), fr_shf r'.shf f (by decide), fr_tr r'.tr f (by decide)⟩
        obtain ⟨m', b1, b2, b3, -⟩ := runF_VF (kd := I 102 (4 * j)) (wt := I 102 (4 * j + 1)) (wd := I 102 (4 * j + 2)) (cl := I 102 (4 * j + 3)) (L := I 67) M m (I 69) a8 (by omega)
        refine ⟨n, hC.mv (f.cells (by decide)) (x1 65 (by decide) (by decide) (by decide)) (x2 0 (by decide)) (x1 102 (by decide) (by decide) (by decide)) rfl, ?_, ?_, ?_, ?_⟩
        · rw [x1 65 (by decide) (by decide) (by decide), x2 5 (by decide)]; exact hz
        · rw [x1 67 (by decide) (by decide) (by decide), x1 103 (by decide) (by decide) (by decide)]; exact hL
        · rw [x1 68 (by decide) (by decide) (by decide), x1 104 (by decide) (by decide) (by decide)]; exact hH
        · rw [x3, x1 102 (by decide) (by decide) (by decide)]
          refine Or.inr ⟨c, j, m', a1, a2, a3, ?_, ?_, fun i h1 h2 => ?_, by omega, ?_⟩
          · rw [l2, g1 106 (by decide), k1 106 (by decide), f1 106 (by decide)]; exact a4
          · rw [f2, runF_1]; exact a5
          · rw [l3 i h1 h2, g3, f2, ← runF_L hL]
            exact (runF_A M hA (i + 1) (by omega) (by omega)).symm
          · rw [f2]; exact b3
end
