section
variable {s : Nat} {T : TM} {I I' I'' : IM} {J : JM} {P P' P'' : PM}
/-- only what every call may leave as it likes has changed -/
def Sc (I I' : IM) : Prop := (∀ x, x ∉ scr → x ≠ 101 → I' x = I x) ∧ ∀ i, i ∉ scm → I' 101 i = I 101 i
def Ps (P P' : PM) : Prop := ∀ x, x ∉ [76, 79, 89, 90] → P' x = P x
theorem Sc.re (I : IM) : Sc I I := ⟨fun _ _ _ => rfl, fun _ _ => rfl⟩
theorem Sc.tr (h : Sc I I') (h2 : Sc I' I'') : Sc I I'' := ⟨fun x a b => (h2.1 x a b).trans (h.1 x a b), fun i a => (h2.2 i a).trans (h.2 i a)⟩
theorem Sc.of1 {a : Nat} (ha : a ∈ scr) (h1 : 101 ≠ a) (h : ∀ x, x ≠ a → I' x = I x) : Sc I I' := ⟨fun x hx _ => h x (fun e => hx (by rw [e]; exact ha)), fun i _ => by rw [h 101 h1]⟩
theorem Sc.ofm (h1 : ∀ a, a ≠ 101 → I' a = I a) (h2 : ∀ i, i < 19 ∨ 31 < i → I' 101 i = I 101 i) : Sc I I' := ⟨fun x _ h => h1 x h, fun i hi => h2 i (by have := (scm_of hi).1; omega)⟩
theorem Ps.re (P : PM) : Ps P P := fun _ _ => rfl
theorem Ps.tr (h : Ps P P') (h2 : Ps P' P'') : Ps P P'' := fun x a => (h2 x a).trans (h x a)
theorem Ps.s89 {c : Option Nat} : Ps P (up2 P 89 0 c) := fun x hx => by
  simp only [List.mem_cons, List.not_mem_nil, or_false, not_or] at hx
  rw [up2_oth _ _ _ hx.2.2.1]
theorem Ps.s90 {c : Option Nat} : Ps P (up2 P 90 0 c) := fun x hx => by
  simp only [List.mem_cons, List.not_mem_nil, or_false, not_or] at hx
  rw [up2_oth _ _ _ hx.2.2.2]
theorem Rel.sc (r : Rel s T I J P) (h : Sc I I') (hp : Ps P P') : Rel s T I' J P' := r.fr ⟨fun x hx h1 _ => h.1 x hx h1, h.2, fun i _ => by rw [h.1 64 (by decide) (by decide)], hp, fun _ _ => rfl⟩
theorem CR.sc {n : Nat} (h : CR T I (P 66) (I 65 1) (I 101 0) (I 102) n) (hs : Sc I I') (hp : Ps P P') : CR T I' (P' 66) (I' 65 1) (I' 101 0) (I' 102) n := h.mv (fun x hx _ => hs.1 x (ge_notin (by decide) hx) (by omega)) (hs.1 65 (by decide) (by decide)) (hs.2 0 (by decide)) (hs.1 102 (by decide) (by decide)) (hp 66 (by decide))
theorem Sc.sin (h : Sc I I') (hs : SinOK (I 105)) : SinOK (I' 105) := by rw [h.1 105 (by decide) (by decide)]; exact hs
/-! fall -/
def sortF (φ : Nat → Int32) : Int32 := (if φ 9 ≤ 0 then 0 else 1) + (if φ 10 ≤ 0 then 0 else 2)
def fallA (φ : Nat → Int32) (p : Int32) : Int32 := if 0 < φ 4 then (-2147483648) else if p = 0 then φ 2 else if p = 1 then φ 3 else if p = 2 then φ 9 else if p = 3 then φ 10 else if p = 4 then sortF φ else if p = 5 then sq (φ 3) else (-2147483648)
theorem fallA_out {φ : Nat → Int32} {p : Int32} (h : p.toInt < 0 ∨ 5 < p.toInt) : fallA φ p = -2147483648 := by
  have d : ∀ k, k ≤ 5 → ¬ p = nI k := fun k hk e => by rw [e, nI_toInt (by omega)] at h; omega
  unfold fallA
  rw [if_neg (show ¬ p = 0 from d 0 (by decide)), if_neg (show ¬ p = 1 from d 1 (by decide)), if_neg (show ¬ p = 2 from d 2 (by decide)), if_neg (show ¬ p = 3 from d 3 (by decide)), if_neg (show ¬ p = 4 from d 4 (by decide)), if_neg (show ¬ p = 5 from d 5 (by decide)), ite_self]
theorem q_fall {N : Nat} (hN : 400 < N) (r : Rel s T I J P) (p1 p2 p3 p4 p5 : Int32) : ∃ v I1 I2 P1, F_X11_fall N T I P p1 p2 p3 p4 p5 = some (v, I1, P1) ∧ F_X12_fall N I1 p1 p2 p3 p4 p5 = some (v, I2) ∧ Rel s T I2 J P1 := by
  obtain ⟨n, hC, hz, hL, hH, hA⟩ := r.now
  have h6 := hC.1
  rcases b_begin hC (a := 89) (by decide) p1 p2 p3 p4 with ⟨g1, g2⟩ | ⟨g1, j, k, c, I1, hj, hp, hk, hs, ht, hc, hr, e2, f1, f2, q⟩
  · refine ⟨-2147483648, I, I, P, ?_, ?_, r⟩
    · unfold F_X11_fall; rw [g2]; rfl
    · unfold F_X12_fall; rw [g1]; rfl
  · obtain ⟨I2, e3, i1, i2⟩ := x_runOut hN (T := T) (I := I1) (P := up2 P 89 0 (some c)) (a := 89) (b := 67) (c := c) (up2_s _ _ _ _) (hr.fr (fun x hx _ => f1 x (by omega))) (by decide) (by decide) f2 q hk hs ht
    rw [f1 67 (by decide)] at e3 i2
    have sc1 : Sc I I2 := Sc.of1 (a := 89) (by decide) (by decide) (fun x hx => (i1 x hx).trans (f1 x hx))
    have esq := FR_sq (C := I 102) (L := I 67) (wt := I 102 (4 * j + 1)) (j := j) (h := p2) hk hs ht
    have e3' : F_X1_runOut N T I1 (up2 P 89 0 (some c)) 89 67 = some ((if 0 < FR (I 102) (I 67) (I 102 (4 * j + 1)) j p2 p3 p4 4 then 0 else 1), I2) := e3
    have i2' : EqF (I2 89) (FR (I 102) (I 67) (I 102 (4 * j + 1)) j p2 p3 p4) := i2
    have hfL := FR_L (C := I 102) (wt := I 102 (4 * j + 1)) (j := j) (h := p2) (s := p3) (t := p4) hL
    generalize hφ : FR (I 102) (I 67) (I 102 (4 * j + 1)) j p2 p3 p4 = φ at *
    have hx : F_X11_fall N T I P p1 p2 p3 p4 p5 = some (fallA φ p5, I2, up2 P 89 0 (some c)) := by
      unfold F_X11_fall fallA
      rw [e2]
      simp only [Option.bind_some]
      rw [if_neg (by decide), e3']
      simp only [Option.bind_some]
      by_cases h4 : 0 < φ 4
      · rw [if_pos h4, if_pos h4, if_pos rfl]
      · rw [if_neg h4, if_neg h4, if_neg (by decide)]
        have esq2 : F_X1_square I2 89 = some (sq (φ 3)) := by
          unfold F_X1_square
          rw [i2' 3 (by decide) (by decide), esq]
          rfl
        have eso : F_X1_sort I2 89 = sortF φ := x_sort i2'
        rw [esq2, eso, i2' 2 (by decide) (by decide), i2' 3 (by decide) (by decide), i2' 9 (by decide) (by decide), i2' 10 (by decide) (by decide)]
        simp only [Option.bind_some]
        repeat' split
        all_goals rfl
    rcases in0 p5 0 5 (a := 0) (b := 5) rfl rfl with ⟨g, h⟩ | ⟨g, h⟩
    · refine ⟨_, _, I2, _, hx, ?_, r.sc sc1 Ps.s89⟩
      unfold F_X12_fall
      rw [g, fallA_out h]
      simp
    · obtain ⟨I3, e4, k1, k2, k3⟩ := m_falls hN (I := I2) (j := j) (h := p2) (s := p3) (t := p4) (sc1.sin r.sin) (by omega) (by rw [sc1.1 102 (by decide) (by decide)]; exact hr.wd0.2) hk hs ht
      rw [sc1.1 102 (by decide) (by decide), sc1.1 103 (by decide) (by decide), ← hfL] at e4 k3
      refine ⟨_, _, I3, _, hx, ?_, r.sc (sc1.tr (Sc.ofm k1 k2)) Ps.s89⟩
      have gf : F_X12_isFall I2 p1 p2 p3 p4 = 1 := by
        rw [← g1]
        unfold F_X12_isFall F_X12_isCard
        rw [sc1.2 0 (by decide)]
      unfold F_X12_fall fallA
      rw [gf, g, if_neg (by decide), if_neg (by decide), hp, e4]
      simp only [Option.bind_some]
      by_cases h4 : 0 < φ 4
      · rw [if_pos h4, if_pos h4, if_pos rfl]
      · rw [if_neg h4, if_neg h4, if_neg (by decide), m_square k3, m_sort k3]
        have m2 : I3 101 23 = φ 2 := k3 2 (by decide) (by decide)
        have m3 : I3 101 24 = φ 3 := k3 3 (by decide) (by decide)
        have m9 : I3 101 30 = φ 9 := k3 9 (by decide) (by decide)
        have m10 : I3 101 31 = φ 10 := k3 10 (by decide) (by decide)
        rw [m2, m3, m9, m10]
        have : p5.toInt = (0 : Nat) ∨ p5.toInt = (1 : Nat) ∨ p5.toInt = (2 : Nat) ∨ p5.toInt = (3 : Nat) ∨ p5.toInt = (4 : Nat) ∨ p5.toInt = (5 : Nat) := by omega
        rcases this with h | h | h | h | h | h <;> have hp := nat_eq h <;> subst hp <;> rfl
/-! line -/
def lineS (C L : Nat → Int32) (j : Nat) (h s t srt : Int32) : Nat → Nat → Int32
  | 0, _ => -3
  | m + 1, w => if 0 < FR C L (nI w) j h s t 4 then lineS C L j h s t srt m (w + 1) else if sortF (FR C L (nI w) j h s t) = srt then nI w else lineS C L j h s t srt m (w + 1)
theorem lineS_L {C L M : Nat → Int32} (e : EqL L M) {j : Nat} {h s t srt : Int32} : ∀ (m w : Nat), lineS C L j h s t srt m w = lineS C M j h s t srt m w := by
  intro m
  induction m with
  | zero => intro w; rfl
  | succ m ih => intro w; unfold lineS; rw [FR_L e, ih]
theorem FR_C {C D L : Nat → Int32} {wt : Int32} {j : Nat} {h s t : Int32} (e : ∀ i, i ≠ 4 * j + 1 → D i = C i) : FR D L wt j h s t = FR C L wt j h s t := by
  unfold FR
  rw [e (4 * j) (by omega), e (4 * j + 2) (by omega), e (4 * j + 3) (by omega)]
theorem x_lineL {N : Nat} (hN : 400 < N) {n j k : Nat} {h s' t srt : Int32} (hj : j < n) (hk : k < 36) (hs : s' = nI k) (hg : F_X12_isLetGo h s' t = 1) {C L : Nat → Int32} : ∀ (m w : Nat) (I : IM) (P : PM), CR T I (P 66) (I 65 1) (I 101 0) (I 102) n → I 102 = C → I 67 = L → w + m = 100 → ∀ f, m < f → ∃ I' P', G_X11_line_32 N T (nI j) h s' t srt f (nI w) I P = some (lineS C L j h s' t srt m w, I', P') ∧ Sc I I' ∧ Ps P P' := by
  intro m
  induction m with
  | zero =>
    intro w I P hC eC eL hw f hf
    obtain ⟨f, rfl⟩ : ∃ g, f = g + 1 := ⟨f - 1, by omega⟩
    refine ⟨I, P, ?_, Sc.re _, Ps.re _⟩
    rw [G_X11_line_32, if_pos (by rw [show w = 100 by omega]; decide)]
    rfl
  | succ m ih =>
    intro w I P hC eC eL hw f hf
    obtain ⟨f, rfl⟩ : ∃ g, f = g + 1 := ⟨f - 1, by omega⟩
    have h99 : ¬ (99 : Int32) < nI w := by
      rw [Int32.lt_iff_toInt_lt, nI_toInt (by omega)]
      simp only [Int32.reduceToInt]
      omega
    rw [G_X11_line_32, if_neg h99]
    rcases b_begin hC (a := 89) (by decide) (nI j) h s' t with ⟨g1, -⟩ | ⟨g1, j', k', c, I1, hj', hp, hk', hs', ht, hc, hr, e2, f1, f2, q⟩
    · exfalso
      unfold F_X12_isFall at g1
      rw [hg] at g1
      rcases card_cases hC (nI j) with ⟨e3, -⟩ | ⟨e3, -⟩
      · have q : F_X12_isCard I (nI j) = 1 := by
          unfold F_X12_isCard
          have hs : (I 101 0 - 1).toInt = (n : Int) - 1 := by rw [hC.2.2.1]; exact nI_sub1 (by have := hC.1; omega)
          exact in1 (a := 0) (b := (n : Int) - 1) rfl hs (by rw [nI_toInt (by have := hC.1; omega)]; omega)
        rw [q] at e3
        exact absurd e3 (by decide)
      · rw [e3] at g1
        exact absurd g1 (by decide)
    · have hjj : j = j' := (nI_eq (by have := hC.1; omega) (by have := hC.1; omega)).mp hp
      subst hjj
      have hrc := hr.1
      obtain ⟨I2, e3, i1, i2⟩ := x_runOut hN (T := T) (I := up2 I1 89 1 (nI w)) (P := up2 P 89 0 (some c)) (a := 89) (b := 67) (c := c) (h := h) (s := s') (t := t) (up2_s _ _ _ _) (hr.fr (fun x hx _ => by rw [up2_oth _ _ _ (by omega), f1 x (by omega)])) (by decide) (by decide) (up2_s _ _ _ _) (fun i a b => by
        have : i ≠ 1 := by omega
        rw [up2_row]
        simp only [this, if_false]
        exact q i a b) hk hs ht
      rw [up2_oth _ _ _ (by decide), f1 67 (by decide), eL, eC] at e3 i2
      have e3' : F_X1_runOut N T (up2 I1 89 1 (nI w)) (up2 P 89 0 (some c)) 89 67 = some ((if 0 < FR C L (nI w) j h s' t 4 then 0 else 1), I2) := e3
      have i2' : EqF (I2 89) (FR C L (nI w) j h s' t) := i2
      have sc1 : Sc I I2 := Sc.of1 (a := 89) (by decide) (by decide) (fun x hx => by rw [i1 x hx, up2_oth _ _ _ hx, f1 x hx])
      obtain ⟨I3, P3, e4, sc3, ps3⟩ := ih (w + 1) I2 (up2 P 89 0 (some c)) (hC.sc sc1 Ps.s89) (by rw [sc1.1 102 (by decide) (by decide)]; exact eC) (by rw [sc1.1 67 (by decide) (by decide)]; exact eL) (by omega) f (by omega)
      rw [e2]
      simp only [Option.bind_some, letb]
      rw [e3']
      simp only [Option.bind_some]
      unfold lineS
      by_cases h4 : 0 < FR C L (nI w) j h s' t 4
      · rw [if_pos h4, if_pos h4, if_pos rfl, nI_1]
        exact ⟨I3, P3, e4, sc1.tr sc3, Ps.s89.tr ps3⟩
      · rw [if_neg h4, if_neg h4, if_neg (by decide), show F_X1_sort I2 89 = sortF (FR C L (nI w) j h s' t) from x_sort i2']
        by_cases h5 : sortF (FR C L (nI w) j h s' t) = srt
        · rw [if_pos h5, if_pos h5]
          exact ⟨I2, _, rfl, sc1, Ps.s89⟩
        · rw [if_neg h5, if_neg h5, nI_1]
          exact ⟨I3, P3, e4, sc1.tr sc3, Ps.s89.tr ps3⟩
theorem m_lineL {N : Nat} (hN : 400 < N) {j k : Nat} {h s' t srt : Int32} (hj : j < 6) (hk : k < 36) (hs : s' = nI k) (ht : -9 ≤ t.toInt ∧ t.toInt ≤ 9) {C L : Nat → Int32} (hwd : ¬ C (4 * j + 2) = 0) : ∀ (m w : Nat) (I : IM), SinOK (I 105) → (∀ i, i ≠ 4 * j + 1 → I 102 i = C i) → I 103 = L → w + m = 100 → ∀ f, m + 1 < f → ∃ I', G_X12_line_39 N (nI j) h s' t srt (C (4 * j + 1)) f (-3) (nI w) I = some (lineS C L j h s' t srt m w, I') ∧ (∀ x, x ≠ 101 → x ≠ 102 → I' x = I x) ∧ (∀ i, i < 19 ∨ 31 < i → I' 101 i = I 101 i) ∧ I' 102 = C := by
  have ix : inb ((4 * nI j) + 1) 24 = true ∧ ((4 * nI j) + 1).toNatClampNeg = 4 * j + 1 := its_idx j hj 1 (by decide)
  have back : ∀ I : IM, (∀ i, i ≠ 4 * j + 1 → I 102 i = C i) → up2 I 102 (4 * j + 1) (C (4 * j + 1)) 102 = C := by
    intro I e
    rw [up2_row]
    funext i
    by_cases q : i = 4 * j + 1
    · rw [if_pos q, q]
    · rw [if_neg q, e i q]
  intro m
  induction m with
  | zero =>
    intro w I hsin eC eL hw f hf
    obtain ⟨f, rfl⟩ : ∃ g, f = g + 1 := ⟨f - 1, by omega⟩
    refine ⟨up2 I 102 (4 * j + 1) (C (4 * j + 1)), ?_, fun x h1 h2 => up2_oth _ _ _ h2, fun i _ => by rw [up2_oth _ _ _ (by decide)], back I eC⟩
    rw [G_X12_line_39, if_pos (by rw [show w = 100 by omega]; decide), if_pos ix.1, ix.2]
    rfl
  | succ m ih =>
    intro w I hsin eC eL hw f hf
    obtain ⟨f, rfl⟩ : ∃ g, f = g + 1 := ⟨f - 1, by omega⟩
    have h100 : ¬ (100 : Int32) ≤ nI w := nI_ge (a := w) (b := 100) (by omega) (by decide)
    rw [G_X12_line_39, if_neg h100, if_neg (by decide), if_pos ix.1, ix.2]
    simp only [letb]
    have eC1 : ∀ i, i ≠ 4 * j + 1 → (up2 I 102 (4 * j + 1) (nI w)) 102 i = C i := fun i hi => by
      rw [up2_row]
      simp only [hi, if_false]
      exact eC i hi
    obtain ⟨I2, e4, k1, k2, k3⟩ := m_falls hN (I := up2 I 102 (4 * j + 1) (nI w)) (j := j) (h := h) (s := s') (t := t) (by rw [up2_oth _ _ _ (by decide)]; exact hsin) hj (by rw [eC1 _ (by omega)]; exact hwd) hk hs ht
    rw [FR_C eC1, up2_s, up2_oth _ _ _ (by decide), eL] at e4 k3
    rw [e4]
    simp only [Option.bind_some]
    have x2 : ∀ x, x ≠ 101 → x ≠ 102 → I2 x = I x := fun x h1 h2 => by rw [k1 x h1, up2_oth _ _ _ h2]
    have x3 : ∀ i, i < 19 ∨ 31 < i → I2 101 i = I 101 i := fun i hi => by rw [k2 i hi, up2_oth _ _ _ (by decide)]
    have eC2 : ∀ i, i ≠ 4 * j + 1 → I2 102 i = C i := fun i hi => by rw [k1 102 (by decide)]; exact eC1 i hi
    obtain ⟨I3, e5, l1, l2, l3⟩ := ih (w + 1) I2 (by rw [x2 105 (by decide) (by decide)]; exact hsin) eC2 (by rw [x2 103 (by decide) (by decide)]; exact eL) (by omega) f (by omega)
    have goOn : ∃ I', G_X12_line_39 N (nI j) h s' t srt (C (4 * j + 1)) f (-3) (nI w + 1) I2 = some (lineS C L j h s' t srt m (w + 1), I') ∧ (∀ x, x ≠ 101 → x ≠ 102 → I' x = I x) ∧ (∀ i, i < 19 ∨ 31 < i → I' 101 i = I 101 i) ∧ I' 102 = C := by
      rw [nI_1]
      exact ⟨I3, e5, fun x h1 h2 => (l1 x h1 h2).trans (x2 x h1 h2), fun i hi => (l2 i hi).trans (x3 i hi), l3⟩
    unfold lineS
    by_cases h4 : 0 < FR C L (nI w) j h s' t 4
    · simp only [if_pos h4, if_true]
      exact goOn
    · rw [if_neg h4, if_neg h4, if_neg (by decide), show F_X12_sortOf I2 = sortF (FR C L (nI w) j h s' t) from m_sort k3]
      by_cases h5 : sortF (FR C L (nI w) j h s' t) = srt
      · rw [if_pos h5, if_pos h5]
        obtain ⟨f, rfl⟩ : ∃ g, f = g + 1 := ⟨f - 1, by omega⟩
        refine ⟨up2 I2 102 (4 * j + 1) (C (4 * j + 1)), ?_, fun x h1 h2 => by rw [up2_oth _ _ _ h2, x2 x h1 h2], fun i hi => by rw [up2_oth _ _ _ (by decide), x3 i hi], back I2 eC2⟩
        rw [G_X12_line_39, if_pos ix.1, ix.2, if_pos (nI_pos' (by omega)), ite_self]
        rfl
      · rw [if_neg h5, if_neg h5]
        exact goOn
theorem q_line {N : Nat} (hN : 400 < N) (r : Rel s T I J P) (p1 p2 p3 p4 p5 : Int32) : ∃ v I1 I2 P1, F_X11_line N T I P p1 p2 p3 p4 p5 = some (v, I1, P1) ∧ F_X12_line N I1 p1 p2 p3 p4 p5 = some (v, I2) ∧ Rel s T I2 J P1 := by
  obtain ⟨n, hC, hz, hL, hH, hA⟩ := r.now
  have h6 := hC.1
  rcases in0 p5 0 3 (a := 0) (b := 3) rfl rfl with ⟨g, h⟩ | ⟨g, h⟩
  · refine ⟨-1, I, I, P, ?_, ?_, r⟩
    · unfold F_X11_line
      simp only [Int32.lt_iff_toInt_lt, Int32.reduceToInt]
      by_cases a1 : p5.toInt < 0
      · rw [if_pos a1]
      · rw [if_neg a1, if_pos (by omega)]
    · unfold F_X12_line
      rw [g]
      simp
  · have ex : F_X11_line N T I P p1 p2 p3 p4 p5 = ((F_X11_begin T I P 89 p1 p2 p3 p4).bind (fun x3 => (if x3.1 = 0 then (some ((-1), x3.2.1, x3.2.2)) else (G_X11_line_32 N T p1 p2 p3 p4 p5 N 1 x3.2.1 x3.2.2)))) := by
      unfold F_X11_line
      simp only [Int32.lt_iff_toInt_lt, Int32.reduceToInt]
      rw [if_neg (by omega), if_neg (by omega)]
    rcases b_begin hC (a := 89) (by decide) p1 p2 p3 p4 with ⟨g1, g2⟩ | ⟨g1, j, k, c, I1, hj, hp, hk, hs, ht, hc, hr, e2, f1, f2, q⟩
    · refine ⟨-1, I, I, P, ?_, ?_, r⟩
      · rw [ex, g2]; rfl
      · unfold F_X12_line; rw [g1]; rfl
    · have hg : F_X12_isLetGo p2 p3 p4 = 1 := by
        rcases letgo_1 (h := p2) (s := p3) (t := p4) with z | z
        · unfold F_X12_isFall at g1
          rw [z] at g1
          simp at g1
        · exact z.1
      subst hp
      have sc0 : Sc I I1 := Sc.of1 (a := 89) (by decide) (by decide) f1
      obtain ⟨I2, P2, e3, sc1, ps1⟩ := x_lineL (srt := p5) hN hj hk hs hg 99 1 I1 (up2 P 89 0 (some c)) (hC.sc sc0 Ps.s89) rfl rfl rfl N (by omega)
      have sc2 := sc0.tr sc1
      obtain ⟨I3, e4, k1, k2, k3⟩ := m_lineL (srt := p5) hN (j := j) (by omega) hk hs ht (C := I 102) (L := I 103) hr.wd0.2 99 1 I2 (sc2.sin r.sin) (fun i _ => by rw [sc2.1 102 (by decide) (by decide)]) (sc2.1 103 (by decide) (by decide)) rfl N (by omega)
      rw [sc0.1 102 (by decide) (by decide), sc0.1 67 (by decide) (by decide), lineS_L hL] at e3
      have sc3 : Sc I2 I3 := ⟨fun x _ hx => by
        by_cases q : x = 102
        · rw [q, k3, sc2.1 102 (by decide) (by decide)]
        · exact k1 x hx q, fun i hi => k2 i (by have := (scm_of hi).1; omega)⟩
      refine ⟨_, I2, I3, P2, by rw [ex, e2]; exact e3, ?_, r.sc (sc2.tr sc3) (Ps.s89.tr ps1)⟩
      have gf : F_X12_isFall I2 (nI j) p2 p3 p4 = 1 := by
        rw [← g1]
        unfold F_X12_isFall F_X12_isCard
        rw [sc2.2 0 (by decide)]
      unfold F_X12_line
      rw [gf, g, if_neg (by decide), if_neg (by decide), m_its1 (by omega), sc2.1 102 (by decide) (by decide)]
      exact e4
end
