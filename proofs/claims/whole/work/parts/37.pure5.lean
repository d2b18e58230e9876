/-! PURE WORK 5: cards, begins, falls -/
def CardR (T : TM) (I : IM) (c j : Nat) (kd wt wd cl : Int32) : Prop := 124 ≤ c ∧ isF T c = true ∧ kmapR (T.2.1 c) kd ∧ I c 0 = nI j ∧ I c 1 = wt ∧ I c 2 = wd ∧ I c 3 = cl ∧ (1 ≤ wt.toInt ∧ wt.toInt ≤ 99) ∧ (1 ≤ wd.toInt ∧ wd.toInt ≤ 9) ∧ (-4 ≤ cl.toInt ∧ cl.toInt ≤ 4)
def CR (T : TM) (I : IM) (th : Nat → Option Nat) (cnt cnt' : Int32) (C : Nat → Int32) (n : Nat) : Prop := n ≤ 6 ∧ cnt = nI n ∧ cnt' = nI n ∧ (∀ j, j < n → ∃ c, th j = some c ∧ CardR T I c j (C (4 * j)) (C (4 * j + 1)) (C (4 * j + 2)) (C (4 * j + 3))) ∧ fOk T th 6 = true
theorem CardR.fr {T : TM} {I I' : IM} {c j : Nat} {kd wt wd cl : Int32} (h : CardR T I c j kd wt wd cl) (hI : ∀ x, 124 ≤ x → x < 64 + T.1 → I' x = I x) : CardR T I' c j kd wt wd cl := by
  obtain ⟨h1, h2, h3⟩ := h
  have hlt : c < 64 + T.1 := by
    unfold isF at h2
    simp only [Bool.and_eq_true, decide_eq_true_eq] at h2
    exact h2.2.1
  exact ⟨h1, h2, by rw [hI c h1 hlt]; exact h3⟩
theorem CR.fr {T : TM} {I I' : IM} {th : Nat → Option Nat} {cnt cnt' : Int32} {C : Nat → Int32} {n : Nat} (h : CR T I th cnt cnt' C n) (hI : ∀ x, 124 ≤ x → x < 64 + T.1 → I' x = I x) : CR T I' th cnt cnt' C n := by
  obtain ⟨h1, h2, h3, h4, h5⟩ := h
  refine ⟨h1, h2, h3, fun j hj => ?_, h5⟩
  obtain ⟨c, e, r⟩ := h4 j hj
  exact ⟨c, e, r.fr hI⟩
/-- the same from memory to memory -/
theorem CR.mv {T : TM} {I I' : IM} {P P' : PM} {n : Nat} (h : CR T I (P 66) (I 65 1) (I 101 0) (I 102) n) (hI : ∀ x, 124 ≤ x → x < 64 + T.1 → I' x = I x) (h65 : I' 65 = I 65) (h101 : I' 101 0 = I 101 0) (h102 : I' 102 = I 102) (hP : P' 66 = P 66) : CR T I' (P' 66) (I' 65 1) (I' 101 0) (I' 102) n := by
  rw [h65, h101, h102, hP]
  exact h.fr hI
theorem in_iff {p lo hi : Int32} : F_X12_in p lo hi = if p < lo then 0 else if hi < p then 0 else 1 := rfl
theorem tm9 : (-9 : Int32).toInt = -9 := by decide
theorem tm1 : (-1 : Int32).toInt = -1 := by decide
theorem tm4 : (-4 : Int32).toInt = -4 := by decide
theorem tm999 : (-999 : Int32).toInt = -999 := by decide
theorem nI_sub1 {n : Nat} (h : n ≤ 200) : (nI n - 1).toInt = (n : Int) - 1 := by
  rw [Int32.toInt_sub, nI_toInt (by omega), show (1 : Int32).toInt = 1 from rfl, Int.bmod_eq_of_le (by omega) (by omega)]
theorem of_nat {p : Int32} (h : 0 ≤ p.toInt) : p = nI p.toInt.toNat := by
  apply Int32.toInt_inj.mp
  have := Int32.toInt_lt p
  rw [nI_toInt (by omega)]
  omega
theorem card_cases {T : TM} {I : IM} {P : PM} {n : Nat} (h : CR T I (P 66) (I 65 1) (I 101 0) (I 102) n) (p : Int32) : (F_X12_isCard I p = 0 ∧ F_X10_cardAt I P 65 p = some none) ∨ (F_X12_isCard I p = 1 ∧ ∃ j c, j < n ∧ p = nI j ∧ P 66 j = some c ∧ CardR T I c j (I 102 (4 * j)) (I 102 (4 * j + 1)) (I 102 (4 * j + 2)) (I 102 (4 * j + 3)) ∧ F_X10_cardAt I P 65 p = some (some c)) := by
  obtain ⟨h1, h2, h3, h4, h5⟩ := h
  have hs : (I 101 0 - 1).toInt = (n : Int) - 1 := by rw [h3]; exact nI_sub1 (by omega)
  have hn : (I 65 1).toInt = n := by rw [h2]; exact nI_toInt (by omega)
  unfold F_X12_isCard F_X10_cardAt F_X12_in
  simp only [Int32.lt_iff_toInt_lt, Int32.le_iff_toInt_le, Int32.reduceToInt, hs, hn]
  by_cases a1 : p.toInt < 0
  · left; simp [a1]
  · by_cases a2 : (n : Int) ≤ p.toInt
    · left; simp [a1, a2]; omega
    · right
      have a3 : ¬ (n : Int) - 1 < p.toInt := by omega
      have a4 : ¬ (6 : Int) ≤ p.toInt := by omega
      have hp := of_nat (p := p) (by omega)
      obtain ⟨c, e, r⟩ := h4 p.toInt.toNat (by omega)
      refine ⟨by simp [a1, a3], p.toInt.toNat, c, by omega, hp, e, r, ?_⟩
      rw [if_neg a1, if_neg a2, if_neg a4]
      have : p.toNatClampNeg = p.toInt.toNat := rfl
      rw [this, osel_s e]
theorem letgo_eq (h s t : Int32) : F_X11_isLettingGo h s t = F_X12_isLetGo h s t := by
  unfold F_X11_isLettingGo F_X12_isLetGo F_X12_in
  simp only [Int32.lt_iff_toInt_lt, Int32.le_iff_toInt_le, Int32.reduceToInt, tm9]
  by_cases a1 : h.toInt < 1
  · simp [a1]
  · by_cases a2 : 9999 < h.toInt
    · simp [a1, a2]
    · by_cases a3 : s.toInt < 0
      · simp [a1, a2, a3]
      · by_cases a4 : 35 < s.toInt
        · have a5 : 36 ≤ s.toInt := by omega
          simp [a1, a2, a3, a4, a5]
        · have a5 : ¬ 36 ≤ s.toInt := by omega
          by_cases a6 : t.toInt < -9
          · simp [a1, a2, a3, a4, a5, a6]
          · by_cases a7 : 9 < t.toInt <;> simp [a1, a2, a3, a4, a5, a6, a7]
theorem letgo_1 {h s t : Int32} : F_X12_isLetGo h s t = 0 ∨ (F_X12_isLetGo h s t = 1 ∧ (1 ≤ h.toInt ∧ h.toInt ≤ 9999) ∧ (∃ k, k < 36 ∧ s = nI k) ∧ -9 ≤ t.toInt ∧ t.toInt ≤ 9) := by
  unfold F_X12_isLetGo F_X12_in
  simp only [Int32.lt_iff_toInt_lt, Int32.le_iff_toInt_le, Int32.reduceToInt, tm9]
  by_cases a1 : h.toInt < 1
  · left; simp [a1]
  · by_cases a2 : 9999 < h.toInt
    · left; simp [a1, a2]
    · by_cases a3 : s.toInt < 0
      · left; simp [a1, a2, a3]
      · by_cases a4 : 35 < s.toInt
        · left; simp [a1, a2, a3, a4]
        · by_cases a6 : t.toInt < -9
          · left; simp [a1, a2, a3, a4, a6]
          · by_cases a7 : 9 < t.toInt
            · left; simp [a1, a2, a3, a4, a6, a7]
            · right
              exact ⟨by simp [a1, a2, a3, a4, a6, a7], ⟨by omega, by omega⟩, ⟨s.toInt.toNat, by omega, of_nat (by omega)⟩, by omega, by omega⟩
/-- a letting go: neither takes it, or both -/
theorem b_begin {T : TM} {I : IM} {P : PM} {n : Nat} (hC : CR T I (P 66) (I 65 1) (I 101 0) (I 102) n) {a : Nat} (ha : a < 124) (p h s t : Int32) :
    (F_X12_isFall I p h s t = 0 ∧ F_X11_begin T I P a p h s t = some (0, I, P)) ∨
    (F_X12_isFall I p h s t = 1 ∧ ∃ j k c I', j < n ∧ p = nI j ∧ k < 36 ∧ s = nI k ∧ (-9 ≤ t.toInt ∧ t.toInt ≤ 9) ∧ P 66 j = some c ∧ CardR T I c j (I 102 (4 * j)) (I 102 (4 * j + 1)) (I 102 (4 * j + 2)) (I 102 (4 * j + 3)) ∧ F_X11_begin T I P a p h s t = some (1, I', up2 P a 0 (some c)) ∧ (∀ x, x ≠ a → I' x = I x) ∧ I' a 1 = I 102 (4 * j + 1) ∧ EqF (I' a) (st0 h s t)) := by
  unfold F_X12_isFall F_X11_begin
  rcases card_cases hC p with ⟨e1, e2⟩ | ⟨e1, j, c, hj, hp, hc, hr, e2⟩
  · left
    rw [e1, e2]
    exact ⟨rfl, rfl⟩
  · rw [e1, e2, letgo_eq]
    rcases letgo_1 (h := h) (s := s) (t := t) with g | ⟨g, h1, ⟨k, hk, hs⟩, h3⟩
    · left
      rw [g]
      exact ⟨rfl, rfl⟩
    · right
      rw [g]
      refine ⟨rfl, j, k, c, ?w, hj, hp, hk, hs, h3, hc, hr, ?e, ?f, ?g, ?h⟩
      case e =>
        have hf := hr.2.1
        show (if isF T c = true then _ else none) = _
        rw [if_pos hf]
        unfold F_X1_start
        exact rfl
      case f => intro x hx; simp only [letb, up2_oth _ _ _ hx]
      case g => rw [← hr.2.2.2.2.1]; simp [up2]
      case h =>
        intro i h1 h2
        have : i = 2 ∨ i = 3 ∨ i = 4 ∨ i = 5 ∨ i = 6 ∨ i = 7 ∨ i = 8 ∨ i = 9 ∨ i = 10 := by omega
        rcases this with rfl | rfl | rfl | rfl | rfl | rfl | rfl | rfl | rfl <;> simp [up2, st0]
theorem its_idx : ∀ j, j < 6 → ∀ k, k < 4 → inb ((4 * nI j) + nI k) 24 = true ∧ ((4 * nI j) + nI k).toNatClampNeg = 4 * j + k := by decide +kernel
theorem m_its {I : IM} {j k : Nat} (hj : j < 6) (hk : k < 4) : F_X12_its I (nI j) (nI k) = some (I 102 (4 * j + k)) := by
  unfold F_X12_its
  rw [if_pos (its_idx j hj k hk).1, (its_idx j hj k hk).2]
theorem m_its0 {I : IM} {j : Nat} (hj : j < 6) : F_X12_its I (nI j) 0 = some (I 102 (4 * j)) := m_its (k := 0) hj (by decide)
theorem m_its1 {I : IM} {j : Nat} (hj : j < 6) : F_X12_its I (nI j) 1 = some (I 102 (4 * j + 1)) := m_its (k := 1) hj (by decide)
theorem m_its2 {I : IM} {j : Nat} (hj : j < 6) : F_X12_its I (nI j) 2 = some (I 102 (4 * j + 2)) := m_its (k := 2) hj (by decide)
theorem m_its3 {I : IM} {j : Nat} (hj : j < 6) : F_X12_its I (nI j) 3 = some (I 102 (4 * j + 3)) := m_its (k := 3) hj (by decide)
theorem m_lends {I : IM} {j : Nat} (hj : j < 6) (h s t : Int32) : ∃ I', F_X12_lends I (nI j) h s t = some I' ∧ (∀ a, a ≠ 101 → I' a = I a) ∧ (∀ i, i < 19 ∨ 31 < i → I' 101 i = I 101 i) ∧ I' 101 19 = I 102 (4 * j) ∧ I' 101 20 = I 102 (4 * j + 1) ∧ I' 101 21 = I 102 (4 * j + 2) ∧ I' 101 22 = I 102 (4 * j + 3) ∧ EqF (mrow I') (st0 h s t) := by
  refine ⟨?w, ?e, ?a, ?b, ?c, ?d, ?f, ?g, ?h⟩
  case e =>
    unfold F_X12_lends
    simp only [m_its0 hj, m_its1 hj, m_its2 hj, m_its3 hj, Option.bind_some, letb]
    exact rfl
  case a => intro a ha; simp only [up2_oth _ _ _ ha]
  case b =>
    intro i hi
    have q : ∀ m, 19 ≤ m → m ≤ 31 → i ≠ m := fun m h1 h2 => by omega
    simp [up2, q 19 (by decide) (by decide), q 20 (by decide) (by decide), q 21 (by decide) (by decide), q 22 (by decide) (by decide), q 23 (by decide) (by decide), q 24 (by decide) (by decide), q 25 (by decide) (by decide), q 26 (by decide) (by decide), q 27 (by decide) (by decide), q 28 (by decide) (by decide), q 29 (by decide) (by decide), q 30 (by decide) (by decide), q 31 (by decide) (by decide)]
  case c => simp [up2]
  case d => simp [up2]
  case f => simp [up2]
  case g => simp [up2]
  case h =>
    intro i h1 h2
    have : i = 2 ∨ i = 3 ∨ i = 4 ∨ i = 5 ∨ i = 6 ∨ i = 7 ∨ i = 8 ∨ i = 9 ∨ i = 10 := by omega
    rcases this with rfl | rfl | rfl | rfl | rfl | rfl | rfl | rfl | rfl <;> simp [up2, st0, mrow]
/-- a whole fall -/
def FR (C L : Nat → Int32) (wt : Int32) (j : Nat) (h s t : Int32) : Nat → Int32 := runF (C (4 * j)) wt (C (4 * j + 2)) (C (4 * j + 3)) L 400 (st0 h s t)
def sq (x : Int32) : Int32 := if x < 0 then (-((99 - x) / 100)) else (x / 100)
theorem runF_C {kd wt wd cl : Int32} {L φ ψ : Nat → Int32} {n : Nat} (h : EqF φ ψ) : EqF (runF kd wt wd cl L n φ) (runF kd wt wd cl L n ψ) := runF_congr n h
theorem m_falls {N : Nat} (hN : 400 < N) {I : IM} {j k : Nat} {h s t : Int32} (hs : SinOK (I 105)) (hj : j < 6) (hwd : ¬ I 102 (4 * j + 2) = 0) (hk : k < 36) (hsk : s = nI k) (ht : -9 ≤ t.toInt ∧ t.toInt ≤ 9) : ∃ I', F_X12_falls N I (nI j) h s t = some ((if 0 < FR (I 102) (I 103) (I 102 (4 * j + 1)) j h s t 4 then 0 else 1), I') ∧ (∀ a, a ≠ 101 → I' a = I a) ∧ (∀ i, i < 19 ∨ 31 < i → I' 101 i = I 101 i) ∧ EqF (mrow I') (FR (I 102) (I 103) (I 102 (4 * j + 1)) j h s t) := by
  obtain ⟨I1, e, f1, f2, c0, c1, c2, c3, q⟩ := m_lends (I := I) hj h s t
  obtain ⟨I2, e2, g1, g2, g3⟩ := m_loop (N := N) (kd := I 102 (4 * j)) (wt := I 102 (4 * j + 1)) (wd := I 102 (4 * j + 2)) (cl := I 102 (4 * j + 3)) (L := I 103) 400 0 I1 rfl (VF.congr q.sy (st0_VF hk hsk ht)) (by rw [f1 105 (by decide)]; exact hs) c0 c1 c2 c3 (f1 103 (by decide)) hwd N hN
  have hq := runF_C (kd := I 102 (4 * j)) (wt := I 102 (4 * j + 1)) (wd := I 102 (4 * j + 2)) (cl := I 102 (4 * j + 3)) (L := I 103) (n := 400) q
  refine ⟨I2, ?_, fun a ha => (g1 a ha).trans (f1 a ha), fun i hi => (g2 i (by omega)).trans (f2 i hi), ?_⟩
  · unfold F_X12_falls FR
    rw [e]
    show G_X12_falls_9 N N I1 = _
    rw [e2, hq 4 (by decide) (by decide)]
  · rw [g3]
    exact hq
theorem x_runOut {N : Nat} (hN : 400 < N) {T : TM} {I : IM} {P : PM} {a b c j k : Nat} {kd wt wd cl h s t : Int32} (hP : P a 0 = some c) (hr : CardR T I c j kd wt wd cl) (hba : b ≠ a) (hca : a < 124) {w : Int32} (hw : I a 1 = w) (hq : EqF (I a) (st0 h s t)) (hk : k < 36) (hsk : s = nI k) (ht : -9 ≤ t.toInt ∧ t.toInt ≤ 9) : ∃ I', F_X1_runOut N T I P a b = some ((if 0 < runF kd w wd cl (I b) 400 (st0 h s t) 4 then 0 else 1), I') ∧ (∀ x, x ≠ a → I' x = I x) ∧ EqF (I' a) (runF kd w wd cl (I b) 400 (st0 h s t)) := by
  obtain ⟨r1, r2, r3, r4, r5, r6, r7, r8, r9, r10⟩ := hr
  have hwd : ¬ wd ≤ 0 := by rw [Int32.le_iff_toInt_le]; simp only [Int32.reduceToInt]; omega
  obtain ⟨I2, e2, g1, g3⟩ := x_loop (N := N) (kd := kd) (wt := w) (wd := wd) (cl := cl) (L := I b) hP r2 r3 hba (by omega) hwd 400 0 0 I rfl (VF.congr hq.sy (st0_VF hk hsk ht)) (by decide) hw r6 r7 rfl N hN
  have hq2 := runF_C (kd := kd) (wt := w) (wd := wd) (cl := cl) (L := I b) (n := 400) hq
  refine ⟨I2, ?_, g1, ?_⟩
  · unfold F_X1_runOut
    rw [show (0 : Int32) = nI 0 from rfl, e2, hq2 4 (by decide) (by decide)]
    rfl
  · rw [g3]
    exact hq2
theorem FR_VF {C L : Nat → Int32} {wt : Int32} {j : Nat} {h s t : Int32} {k : Nat} (hk : k < 36) (hsk : s = nI k) (ht : -9 ≤ t.toInt ∧ t.toInt ≤ 9) : ∃ m, m ≤ 400 ∧ VF m (FR C L wt j h s t) ∧ (0 < FR C L wt j h s t 4 → m = 400) := by
  obtain ⟨m, h1, h2, h3, h4⟩ := runF_VF (kd := C (4 * j)) (wt := wt) (wd := C (4 * j + 2)) (cl := C (4 * j + 3)) (L := L) 400 0 (st0 h s t) (st0_VF hk hsk ht) (by decide)
  exact ⟨m, by omega, h3, fun q => by rw [h4 q]⟩
theorem FR_sq {C L : Nat → Int32} {wt : Int32} {j : Nat} {h s t : Int32} {k : Nat} (hk : k < 36) (hsk : s = nI k) (ht : -9 ≤ t.toInt ∧ t.toInt ≤ 9) : F_J9_floorDiv_7cf53 (FR C L wt j h s t 3) 100 = some (sq (FR C L wt j h s t 3)) := by
  obtain ⟨m, h1, h2, -⟩ := FR_VF (C := C) (L := L) (wt := wt) (j := j) (h := h) hk hsk ht
  have := h2.2.2.2.2.2
  exact x_square (by omega) (by omega)
theorem FR_L {C L M : Nat → Int32} {wt : Int32} {j : Nat} {h s t : Int32} (e : EqL L M) : FR C L wt j h s t = FR C M wt j h s t := runF_L e 400 _
/-- the class's square of a landing -/
theorem x_lands {N : Nat} (hN : 400 < N) {T : TM} {I : IM} {P : PM} {n : Nat} (hC : CR T I (P 66) (I 65 1) (I 101 0) (I 102) n) {j k : Nat} {h s t : Int32} (hj : j < n) (hk : k < 36) (hs : s = nI k) (hg : F_X12_isLetGo h s t = 1) : ∃ I' c, F_X11_landsOn N T I P (nI j) h s t = some ((if 0 < FR (I 102) (I 67) (I 102 (4 * j + 1)) j h s t 4 then (-2147483648) else sq (FR (I 102) (I 67) (I 102 (4 * j + 1)) j h s t 3)), I', up2 P 89 0 (some c)) ∧ (∀ x, x ≠ 89 → I' x = I x) := by
  have h6 : j < 6 := by have := hC.1; omega
  rcases b_begin hC (a := 89) (by decide) (nI j) h s t with ⟨e1, -⟩ | ⟨e1, j', k', c, I1, hj', hp, hk', hs', ht, hc, hr, e2, f1, f2, q⟩
  · exfalso
    unfold F_X12_isFall at e1
    rw [hg] at e1
    rcases card_cases hC (nI j) with ⟨e3, e4⟩ | ⟨e3, -⟩
    · have q : F_X12_isCard I (nI j) = 1 := by
        unfold F_X12_isCard F_X12_in
        have hs : (I 101 0 - 1).toInt = (n : Int) - 1 := by rw [hC.2.2.1]; exact nI_sub1 (by have := hC.1; omega)
        rw [if_neg (nI_pos (by omega)), if_neg]
        rw [Int32.lt_iff_toInt_lt, hs, nI_toInt (by omega)]
        omega
      rw [q] at e3
      exact absurd e3 (by decide)
    · rw [e3] at e1
      exact absurd e1 (by decide)
  · have : j = j' := (nI_eq (by omega) (by have := hC.1; omega)).mp hp
    subst this
    have hcc := hr.1
    obtain ⟨I2, e3, g1, g2⟩ := x_runOut hN (T := T) (I := I1) (P := up2 P 89 0 (some c)) (a := 89) (b := 67) (c := c) (up2_s _ _ _ _) (hr.fr (fun x hx _ => f1 x (by omega))) (by decide) (by decide) f2 q hk hs ht
    rw [f1 67 (by decide)] at e3 g2
    refine ⟨I2, c, ?_, fun x hx => (g1 x hx).trans (f1 x hx)⟩
    unfold F_X11_landsOn
    rw [e2]
    simp only [Option.bind_some]
    rw [if_neg (by decide), e3]
    simp only [Option.bind_some]
    show (if (if 0 < FR (I 102) (I 67) (I 102 (4 * j + 1)) j h s t 4 then (0 : Int32) else 1) = 0 then _ else _) = _
    by_cases h4 : 0 < FR (I 102) (I 67) (I 102 (4 * j + 1)) j h s t 4
    · rw [if_pos h4, if_pos rfl, if_pos h4]
    · rw [if_neg h4, if_neg (by decide), if_neg h4]
      unfold F_X1_square
      rw [g2 3 (by decide) (by decide)]
      have := FR_sq (C := I 102) (L := I 67) (wt := I 102 (4 * j + 1)) (j := j) (h := h) hk hs ht
      unfold FR at this
      rw [this]
      rfl
theorem m_square {I : IM} {φ : Nat → Int32} (h : EqF (mrow I) φ) : F_X12_squareOf I = sq (φ 3) := by
  rw [← h 3 (by decide) (by decide)]
  rfl
theorem m_sort {I : IM} {φ : Nat → Int32} (h : EqF (mrow I) φ) : F_X12_sortOf I = (if φ 9 ≤ 0 then 0 else 1) + (if φ 10 ≤ 0 then 0 else 2) := by
  rw [← h 9 (by decide) (by decide), ← h 10 (by decide) (by decide)]
  rfl
theorem x_sort {I : IM} {a : Nat} {φ : Nat → Int32} (h : EqF (I a) φ) : F_X1_sort I a = (if φ 9 ≤ 0 then 0 else 1) + (if φ 10 ≤ 0 then 0 else 2) := by
  rw [← h 9 (by decide) (by decide), ← h 10 (by decide) (by decide)]
  rfl
