/-! THE TAPE: the reference's pieces -/
section
variable {N n : Nat} {tp : Nat → Int32} {I I' I'' : IM} {J J' J'' : JM}
def MG (n : Nat) (tp : Nat → Int32) (I : IM) (J : JM) (q : Nat) : Prop := TpM I n tp ∧ MS tp I J q ∧ I 101 14 = 1 ∧ q ≤ n ∧ ¬ tp q = 32
def MFl (n : Nat) (tp : Nat → Int32) (I : IM) (f : Nat) : Prop := TpM I n tp ∧ I 101 14 = 0 ∧ I 101 10 = nI f
def FOp (I I' : IM) (J J' : JM) : Prop := (∀ x, x ≠ 101 → I' x = I x) ∧ (∀ y, y ≠ 9 → y ≠ 10 → y ≠ 11 → y ≠ 13 → y ≠ 14 → I' 101 y = I 101 y) ∧ ∀ x, x ≠ 101 → J' x = J x
theorem FOp.re (I : IM) (J : JM) : FOp I I J J := ⟨fun _ _ => rfl, fun _ _ _ _ _ _ => rfl, fun _ _ => rfl⟩
theorem FOp.tr (h : FOp I I' J J') (h2 : FOp I' I'' J' J'') : FOp I I'' J J'' := ⟨fun x a => (h2.1 x a).trans (h.1 x a), fun y a b c d e => (h2.2.1 y a b c d e).trans (h.2.1 y a b c d e), fun x a => (h2.2.2 x a).trans (h.2.2 x a)⟩
theorem FOp.s14 {v : Int32} : FOp I (up2 I 101 14 v) J J := ⟨fun x a => up2_oth _ _ _ a, fun y _ _ _ _ e => up2_n _ _ (by omega), fun _ _ => rfl⟩
theorem FAd.op (h : FAd I I' J J') : FOp I I' J J' := ⟨h.1, fun y a b c d _ => h.2.1 y a b c d, h.2.2⟩
theorem TpM.op (h : TpM I n tp) (f : FOp I I' J J') : TpM I' n tp := ⟨by rw [f.2.1 8 (by decide) (by decide) (by decide) (by decide) (by decide)]; exact h.1, fun j hj => by rw [f.1 107 (by decide)]; exact h.2 j hj⟩
theorem MS.s14 {q : Nat} {v : Int32} (h : MS tp I J q) : MS tp (up2 I 101 14 v) J q := by
  obtain ⟨a, b, c, d, e⟩ := h
  refine ⟨?_, ?_, ?_, d, ?_⟩
  · rw [up2_n _ _ (by omega)]; exact a
  · rw [up2_n _ _ (by omega)]; exact b
  · rw [up2_n _ _ (by omega)]; exact c
  · rw [up2_n _ _ (by omega)]; exact e
theorem m_adv (hN : 201 ≤ N) (ok : TpOK n tp) {q : Nat} (h : MG n tp I J q) : ∃ I' J', F_X12_advance N I J = some (I', J') ∧ MG n tp I' J' (sk tp (tend tp q)) ∧ FOp I I' J J' := by
  obtain ⟨hT, hS, h14, hq, -⟩ := h
  obtain ⟨t1, t2⟩ := tend_sp ok hq
  obtain ⟨I1, J1, e, s, f⟩ := m_advance (J := J) hN ok hT t2 hS.2.2.1
  obtain ⟨g1, g2, g3⟩ := sk_sp ok t2
  exact ⟨I1, J1, e, ⟨hT.op f.op, s, by rw [f.2.1 14 (by decide) (by decide) (by decide) (by decide)]; exact h14, g2, g3⟩, f.op⟩
theorem up14 {v : Int32} {q : Nat} (h : MG n tp I J q) (hv : v = 1) : MG n tp (up2 I 101 14 v) J q := ⟨h.1.op (J := J) (J' := J) FOp.s14, h.2.1.s14, by rw [up2_s, hv], h.2.2.2⟩
theorem up14f {v : Int32} {f : Nat} (hT : TpM I n tp) (h10 : I 101 10 = nI f) (hv : v = 0) : MFl n tp (up2 I 101 14 v) f := ⟨hT.op (J := fun _ _ => 0) (J' := fun _ _ => 0) FOp.s14, by rw [up2_s, hv], by rw [up2_n _ _ (by omega)]; exact h10⟩
theorem m_num (hN : 201 ≤ N) (ok : TpOK n tp) {q : Nat} (h : MG n tp I J q) {lo hi : Int32} : ((srt tp q = 2 ∧ F_X12_in (val tp q) lo hi = 1) → ∃ I' J', F_X12_wantNumber N I J lo hi = some (val tp q, I', J') ∧ MG n tp I' J' (sk tp (tend tp q)) ∧ FOp I I' J J') ∧ (¬ (srt tp q = 2 ∧ F_X12_in (val tp q) lo hi = 1) → ∃ v I', F_X12_wantNumber N I J lo hi = some (v, I', J) ∧ MFl n tp I' q ∧ FOp I I' J J) := by
  obtain ⟨hT, hS, h14, hq, hb⟩ := id h
  unfold F_X12_wantNumber
  simp only [letb]
  rw [h14, if_neg n10, hS.2.1, hS.2.2.2.2, up2_s]
  constructor
  · rintro ⟨c1, c2⟩
    rw [if_pos c1, c2, if_neg n10, if_neg n10]
    obtain ⟨I1, J1, e, s, f⟩ := m_adv hN ok (up14 h rfl)
    refine ⟨I1, J1, ?_, s, FOp.s14.tr f⟩
    rw [e]
    rfl
  · intro hc
    have e : (if srt tp q = 2 then (if F_X12_in (val tp q) lo hi = 0 then (0 : Int32) else 1) else 0) = 0 := by
      by_cases c1 : srt tp q = 2
      · rw [if_pos c1]
        by_cases c2 : F_X12_in (val tp q) lo hi = 0
        · rw [if_pos c2]
        · exfalso
          apply hc
          refine ⟨c1, ?_⟩
          rcases in0 (val tp q) lo hi rfl rfl with ⟨g, _⟩ | ⟨g, _⟩
          · exact absurd g c2
          · exact g
      · rw [if_neg c1]
    rw [e, if_pos rfl]
    exact ⟨_, _, rfl, up14f hT hS.1 rfl, FOp.s14⟩
theorem m_num_f {f : Nat} (h : MFl n tp I f) {lo hi : Int32} : ∃ v I', F_X12_wantNumber N I J lo hi = some (v, I', J) ∧ MFl n tp I' f ∧ FOp I I' J J := by
  unfold F_X12_wantNumber
  simp only [letb]
  rw [h.2.1, if_pos rfl, up2_s, if_pos rfl]
  exact ⟨_, _, rfl, up14f h.1 h.2.2 rfl, FOp.s14⟩
theorem m_word (hN : 201 ≤ N) (ok : TpOK n tp) {k q : Nat} (hk : k < 15) (h : MG n tp I J q) : (nmA tp k q → ∃ I' J', F_X12_wantWord N I J (o64 (cdN.getD k 0)) = some (I', J') ∧ MG n tp I' J' (sk tp (tend tp q)) ∧ FOp I I' J J') ∧ (¬ nmA tp k q → ∃ I', F_X12_wantWord N I J (o64 (cdN.getD k 0)) = some (I', J) ∧ MFl n tp I' q ∧ FOp I I' J J) := by
  obtain ⟨hT, hS, h14, hq, hb⟩ := id h
  obtain ⟨w1, w0⟩ := m_isWord ok hk hq hS
  unfold F_X12_wantWord
  simp only [letb]
  rw [h14, if_neg n10, up2_s]
  constructor
  · intro z
    rw [w1 z, if_neg n10, if_neg n10]
    obtain ⟨I1, J1, e, s, f⟩ := m_adv hN ok (up14 h rfl)
    refine ⟨I1, J1, ?_, s, FOp.s14.tr f⟩
    rw [e]
    rfl
  · intro z
    rw [w0 z, if_pos rfl, if_pos rfl]
    exact ⟨_, rfl, up14f hT hS.1 rfl, FOp.s14⟩
theorem m_word_f {f : Nat} {c : Int64} (h : MFl n tp I f) : ∃ I', F_X12_wantWord N I J c = some (I', J) ∧ MFl n tp I' f ∧ FOp I I' J J := by
  unfold F_X12_wantWord
  simp only [letb]
  rw [h.2.1, if_pos rfl, up2_s, if_pos rfl]
  exact ⟨_, rfl, up14f h.1 h.2.2 rfl, FOp.s14⟩
theorem srt_m {q : Nat} {c : Int32} (h : tp q = c) (hc : c = 59 ∨ c = 45) : srt tp q = 3 := by
  unfold srt
  rw [h]
  rcases hc with rfl | rfl <;> decide
theorem m_end (hN : 201 ≤ N) (ok : TpOK n tp) {q : Nat} (h : MG n tp I J q) : (tp q = 59 → ∃ I' J', F_X12_wantEnd N I J = some (I', J') ∧ MG n tp I' J' (sk tp (q + 1)) ∧ FOp I I' J J') ∧ (¬ tp q = 59 → ∃ I', F_X12_wantEnd N I J = some (I', J) ∧ MFl n tp I' q ∧ FOp I I' J J) := by
  obtain ⟨hT, hS, h14, hq, hb⟩ := id h
  have hm := m_isMark hS (c := 59) (Or.inl rfl)
  unfold F_X12_wantEnd
  simp only [letb]
  rw [h14, if_neg n10, up2_s, hm]
  constructor
  · intro z
    rw [if_pos z, if_neg n10, if_neg n10]
    obtain ⟨I1, J1, e, s, f⟩ := m_adv hN ok (up14 h rfl)
    rw [tend_3 (srt_m z (Or.inl rfl))] at s
    refine ⟨I1, J1, ?_, s, FOp.s14.tr f⟩
    rw [e]
    rfl
  · intro z
    rw [if_neg z, if_pos rfl, if_pos rfl]
    exact ⟨_, rfl, up14f hT hS.1 rfl, FOp.s14⟩
theorem m_end_f {f : Nat} (h : MFl n tp I f) : ∃ I', F_X12_wantEnd N I J = some (I', J) ∧ MFl n tp I' f ∧ FOp I I' J J := by
  unfold F_X12_wantEnd
  simp only [letb]
  rw [h.2.1, if_pos rfl, up2_s, if_pos rfl]
  exact ⟨_, rfl, up14f h.1 h.2.2 rfl, FOp.s14⟩
/-! which word stands here -/
theorem m_kind (ok : TpOK n tp) {q : Nat} (hq : q ≤ n) (h : MS tp I J q) : (∀ kd, kd < 6 → nmA tp (7 + kd) q → F_X12_kindHere I J = nI kd) ∧ ((∀ kd, kd < 6 → ¬ nmA tp (7 + kd) q) → F_X12_kindHere I J = -1) := by
  have c7 : (119163 : Int64) = o64 (cdN.getD 7 0) := by decide
  have c8 : (283357330 : Int64) = o64 (cdN.getD 8 0) := by decide
  have c9 : (207794107168 : Int64) = o64 (cdN.getD 9 0) := by decide
  have c10 : (8059585273 : Int64) = o64 (cdN.getD 10 0) := by decide
  have c11 : (7106601235 : Int64) = o64 (cdN.getD 11 0) := by decide
  have c12 : (335088634 : Int64) = o64 (cdN.getD 12 0) := by decide
  have w7 := m_isWord ok (k := 7) (by decide) hq h
  have w8 := m_isWord ok (k := 8) (by decide) hq h
  have w9 := m_isWord ok (k := 9) (by decide) hq h
  have w10 := m_isWord ok (k := 10) (by decide) hq h
  have w11 := m_isWord ok (k := 11) (by decide) hq h
  have w12 := m_isWord ok (k := 12) (by decide) hq h
  unfold F_X12_kindHere
  rw [c7, c8, c9, c10, c11, c12]
  constructor
  · intro kd hkd hn
    have ne : ∀ k, k < 15 → k ≠ 7 + kd → ¬ nmA tp k q := fun k hk h1 h2 => h1 (name_ne ok hk (by omega) hq h2 hn)
    have : kd = 0 ∨ kd = 1 ∨ kd = 2 ∨ kd = 3 ∨ kd = 4 ∨ kd = 5 := by omega
    rcases this with rfl | rfl | rfl | rfl | rfl | rfl
    · rw [w7.1 hn]; rfl
    · rw [w7.2 (ne 7 (by decide) (by decide)), w8.1 hn]; rfl
    · rw [w7.2 (ne 7 (by decide) (by decide)), w8.2 (ne 8 (by decide) (by decide)), w9.1 hn]; rfl
    · rw [w7.2 (ne 7 (by decide) (by decide)), w8.2 (ne 8 (by decide) (by decide)), w9.2 (ne 9 (by decide) (by decide)), w10.1 hn]; rfl
    · rw [w7.2 (ne 7 (by decide) (by decide)), w8.2 (ne 8 (by decide) (by decide)), w9.2 (ne 9 (by decide) (by decide)), w10.2 (ne 10 (by decide) (by decide)), w11.1 hn]; rfl
    · rw [w7.2 (ne 7 (by decide) (by decide)), w8.2 (ne 8 (by decide) (by decide)), w9.2 (ne 9 (by decide) (by decide)), w10.2 (ne 10 (by decide) (by decide)), w11.2 (ne 11 (by decide) (by decide)), w12.1 hn]; rfl
  · intro hn
    rw [w7.2 (hn 0 (by decide)), w8.2 (hn 1 (by decide)), w9.2 (hn 2 (by decide)), w10.2 (hn 3 (by decide)), w11.2 (hn 4 (by decide)), w12.2 (hn 5 (by decide))]
    rfl
theorem m_law (ok : TpOK n tp) {q : Nat} (hq : q ≤ n) (h : MS tp I J q) : (∀ a, a < 6 → nmA tp a q → F_X12_lawHere I J = nI a) ∧ ((∀ a, a < 6 → ¬ nmA tp a q) → F_X12_lawHere I J = -1) := by
  have c0 : (242939 : Int64) = o64 (cdN.getD 0 0) := by decide
  have c1 : (91888 : Int64) = o64 (cdN.getD 1 0) := by decide
  have c2 : (101525 : Int64) = o64 (cdN.getD 2 0) := by decide
  have c3 : (385898 : Int64) = o64 (cdN.getD 3 0) := by decide
  have c4 : (79828 : Int64) = o64 (cdN.getD 4 0) := by decide
  have c5 : (459652 : Int64) = o64 (cdN.getD 5 0) := by decide
  have w0 := m_isWord ok (k := 0) (by decide) hq h
  have w1 := m_isWord ok (k := 1) (by decide) hq h
  have w2 := m_isWord ok (k := 2) (by decide) hq h
  have w3 := m_isWord ok (k := 3) (by decide) hq h
  have w4 := m_isWord ok (k := 4) (by decide) hq h
  have w5 := m_isWord ok (k := 5) (by decide) hq h
  unfold F_X12_lawHere
  rw [c0, c1, c2, c3, c4, c5]
  constructor
  · intro a ha hn
    have ne : ∀ k, k < 15 → k ≠ a → ¬ nmA tp k q := fun k hk h1 h2 => h1 (name_ne ok hk (by omega) hq h2 hn)
    have : a = 0 ∨ a = 1 ∨ a = 2 ∨ a = 3 ∨ a = 4 ∨ a = 5 := by omega
    rcases this with rfl | rfl | rfl | rfl | rfl | rfl
    · rw [w0.1 hn]; rfl
    · rw [w0.2 (ne 0 (by decide) (by decide)), w1.1 hn]; rfl
    · rw [w0.2 (ne 0 (by decide) (by decide)), w1.2 (ne 1 (by decide) (by decide)), w2.1 hn]; rfl
    · rw [w0.2 (ne 0 (by decide) (by decide)), w1.2 (ne 1 (by decide) (by decide)), w2.2 (ne 2 (by decide) (by decide)), w3.1 hn]; rfl
    · rw [w0.2 (ne 0 (by decide) (by decide)), w1.2 (ne 1 (by decide) (by decide)), w2.2 (ne 2 (by decide) (by decide)), w3.2 (ne 3 (by decide) (by decide)), w4.1 hn]; rfl
    · rw [w0.2 (ne 0 (by decide) (by decide)), w1.2 (ne 1 (by decide) (by decide)), w2.2 (ne 2 (by decide) (by decide)), w3.2 (ne 3 (by decide) (by decide)), w4.2 (ne 4 (by decide) (by decide)), w5.1 hn]; rfl
  · intro hn
    rw [w0.2 (hn 0 (by decide)), w1.2 (hn 1 (by decide)), w2.2 (hn 2 (by decide)), w3.2 (hn 3 (by decide)), w4.2 (hn 4 (by decide)), w5.2 (hn 5 (by decide))]
    rfl
/-! the class looks for a word -/
theorem x_lawN {T : TM} {P : PM} (hN : 201 ≤ N) (ok : TpOK n tp) {q : Nat} : ∀ (m u p : Nat) (I : IM), u + m = 6 → XS n tp I p → sk tp p = q → (∀ a, u ≤ a → a < 6 → ¬ nmA tp a q) → ∀ f, m < f → ∃ I' f' p', G_X6_readPart_2 N T J P f (nI u) I = G_X6_readPart_2 N T J P (f' + 1) (nI 6) I' ∧ XS n tp I' p' ∧ sk tp p' = q ∧ FT I I' := by
  have key : ∀ u, u < 6 → F_X6_lawName (nI u) = u := by decide +kernel
  intro m
  induction m with
  | zero =>
    intro u p I hu hX hs hn f hf
    obtain ⟨f, rfl⟩ : ∃ g, f = g + 1 := ⟨f - 1, by omega⟩
    exact ⟨I, f, p, by rw [show u = 6 by omega], hX, hs, FT.re _⟩
  | succ m ih =>
    intro u p I hu hX hs hn f hf
    obtain ⟨f, rfl⟩ : ∃ g, f = g + 1 := ⟨f - 1, by omega⟩
    have hnn := (x_name (k := u) hN ok (by omega) hX).2 (by rw [hs]; exact hn u (Nat.le_refl _) (by omega))
    obtain ⟨I1, e1, s1, f1⟩ := hnn
    obtain ⟨I2, f2, p2, e2, s2, g2, h2⟩ := ih (u + 1) (sk tp p) I1 (by omega) s1 (by rw [sk_sk ok hX.2.2.1]; exact hs) (fun a b c => hn a (by omega) c) f (by omega)
    refine ⟨I2, f2, p2, ?_, s2, g2, f1.tr h2⟩
    rw [G_X6_readPart_2, if_neg (show ¬ (6 : Int32) ≤ nI u from nI_ge (a := u) (b := 6) (by omega) (by decide)), key u (by omega), e1]
    simp only [Option.bind_some, if_true]
    rw [nI_1]
    exact e2
theorem x_lawY {T : TM} {P : PM} (hN : 201 ≤ N) (ok : TpOK n tp) {q a : Nat} (ha : a < 6) (hna : nmA tp a q) (hq : q ≤ n) : ∀ (m u p : Nat) (I : IM), u + m = a → XS n tp I p → sk tp p = q → ∀ f, m < f → ∃ I', G_X6_readPart_2 N T J P f (nI u) I = ((F_X6_readNumber N I' 0 63).bind (fun x10 => ((F_X6_passEnd N (up2 x10.2 77 a x10.1)).bind (fun x13 => (some (T, x13, J, P)))))) ∧ XS n tp I' (q + sl a) ∧ FT I I' := by
  have key : ∀ u, u < 6 → F_X6_lawName (nI u) = u := by decide +kernel
  intro m
  induction m with
  | zero =>
    intro u p I hu hX hs f hf
    obtain ⟨f, rfl⟩ : ∃ g, f = g + 1 := ⟨f - 1, by omega⟩
    have : u = a := by omega
    subst this
    obtain ⟨I1, e1, s1, f1⟩ := (x_name (k := u) hN ok (by omega) hX).1 (by rw [hs]; exact hna)
    rw [hs] at s1
    refine ⟨I1, ?_, s1, f1⟩
    rw [G_X6_readPart_2, if_neg (show ¬ (6 : Int32) ≤ nI u from nI_ge (a := u) (b := 6) (by omega) (by decide)), key u (by omega), e1]
    simp only [Option.bind_some]
    have ib : inb (nI u) 6 = true := inbN ha (by decide)
    have cl : (nI u).toNatClampNeg = u := nI_clamp (by omega)
    rw [if_neg n10]
    simp only [ib, cl, if_true, letb]
  | succ m ih =>
    intro u p I hu hX hs f hf
    obtain ⟨f, rfl⟩ : ∃ g, f = g + 1 := ⟨f - 1, by omega⟩
    obtain ⟨I1, e1, s1, f1⟩ := (x_name (k := u) hN ok (by omega) hX).2 (by
      rw [hs]
      intro z
      have := name_ne ok (by omega) (by omega) hq z hna
      omega)
    obtain ⟨I2, e2, s2, h2⟩ := ih (u + 1) (sk tp p) I1 (by omega) s1 (by rw [sk_sk ok hX.2.2.1]; exact hs) f (by omega)
    refine ⟨I2, ?_, s2, f1.tr h2⟩
    rw [G_X6_readPart_2, if_neg (show ¬ (6 : Int32) ≤ nI u from nI_ge (a := u) (b := 6) (by omega) (by decide)), key u (by omega), e1]
    simp only [Option.bind_some, if_true]
    rw [nI_1]
    exact e2
theorem x_kindN (hN : 201 ≤ N) (ok : TpOK n tp) {q : Nat} : ∀ (m u p : Nat) (I : IM), u + m = 6 → XS n tp I p → sk tp p = q → (∀ a, u ≤ a → a < 6 → ¬ nmA tp (7 + a) q) → ∀ f, m < f → ∃ I' p', G_X6_passKind_2 N f (nI u) I = some (-1, I') ∧ XS n tp I' p' ∧ sk tp p' = q ∧ FT I I' ∧ (0 < m → p' = q) := by
  have key : ∀ u, u < 6 → F_X6_kindName (nI u) = 7 + u := by decide +kernel
  intro m
  induction m with
  | zero =>
    intro u p I hu hX hs hn f hf
    obtain ⟨f, rfl⟩ : ∃ g, f = g + 1 := ⟨f - 1, by omega⟩
    refine ⟨I, p, ?_, hX, hs, FT.re _, fun z => by omega⟩
    rw [G_X6_passKind_2, if_pos (by rw [show u = 6 by omega]; decide)]
  | succ m ih =>
    intro u p I hu hX hs hn f hf
    obtain ⟨f, rfl⟩ : ∃ g, f = g + 1 := ⟨f - 1, by omega⟩
    obtain ⟨I1, e1, s1, f1⟩ := (x_name (k := 7 + u) hN ok (by omega) hX).2 (by rw [hs]; exact hn u (Nat.le_refl _) (by omega))
    obtain ⟨I2, p2, e2, s2, g2, h2, z2⟩ := ih (u + 1) (sk tp p) I1 (by omega) s1 (by rw [sk_sk ok hX.2.2.1]; exact hs) (fun a b c => hn a (by omega) c) f (by omega)
    by_cases hm : 0 < m
    · refine ⟨I2, p2, ?_, s2, g2, f1.tr h2, fun _ => z2 hm⟩
      rw [G_X6_passKind_2, if_neg (show ¬ (5 : Int32) < nI u from nI_nlt (a := 5) (b := u) (by omega) (by decide)), key u (by omega), e1]
      simp only [Option.bind_some, if_true]
      rw [nI_1]
      exact e2
    · refine ⟨I1, sk tp p, ?_, s1, by rw [sk_sk ok hX.2.2.1]; exact hs, f1, fun _ => hs⟩
      obtain ⟨f, rfl⟩ : ∃ g, f = g + 1 := ⟨f - 1, by omega⟩
      rw [G_X6_passKind_2, if_neg (show ¬ (5 : Int32) < nI u from nI_nlt (a := 5) (b := u) (by omega) (by decide)), key u (by omega), e1]
      simp only [Option.bind_some, if_true]
      rw [nI_1, G_X6_passKind_2, if_pos (by rw [show u + 1 = 6 by omega]; decide)]
theorem x_kindY (hN : 201 ≤ N) (ok : TpOK n tp) {q a : Nat} (ha : a < 6) (hna : nmA tp (7 + a) q) (hq : q ≤ n) : ∀ (m u p : Nat) (I : IM), u + m = a → XS n tp I p → sk tp p = q → ∀ f, m < f → ∃ I', G_X6_passKind_2 N f (nI u) I = some (nI a, I') ∧ XS n tp I' (q + sl (7 + a)) ∧ FT I I' := by
  have key : ∀ u, u < 6 → F_X6_kindName (nI u) = 7 + u := by decide +kernel
  intro m
  induction m with
  | zero =>
    intro u p I hu hX hs f hf
    obtain ⟨f, rfl⟩ : ∃ g, f = g + 1 := ⟨f - 1, by omega⟩
    have : u = a := by omega
    subst this
    obtain ⟨I1, e1, s1, f1⟩ := (x_name (k := 7 + u) hN ok (by omega) hX).1 (by rw [hs]; exact hna)
    rw [hs] at s1
    refine ⟨I1, ?_, s1, f1⟩
    rw [G_X6_passKind_2, if_neg (show ¬ (5 : Int32) < nI u from nI_nlt (a := 5) (b := u) (by omega) (by decide)), key u (by omega), e1]
    simp only [Option.bind_some]
    rw [if_neg n10]
  | succ m ih =>
    intro u p I hu hX hs f hf
    obtain ⟨f, rfl⟩ : ∃ g, f = g + 1 := ⟨f - 1, by omega⟩
    obtain ⟨I1, e1, s1, f1⟩ := (x_name (k := 7 + u) hN ok (by omega) hX).2 (by
      rw [hs]
      intro z
      have := name_ne ok (by omega) (by omega) hq z hna
      omega)
    obtain ⟨I2, e2, s2, h2⟩ := ih (u + 1) (sk tp p) I1 (by omega) s1 (by rw [sk_sk ok hX.2.2.1]; exact hs) f (by omega)
    refine ⟨I2, ?_, s2, f1.tr h2⟩
    rw [G_X6_passKind_2, if_neg (show ¬ (5 : Int32) < nI u from nI_nlt (a := 5) (b := u) (by omega) (by decide)), key u (by omega), e1]
    simp only [Option.bind_some, if_true]
    rw [nI_1]
    exact e2
end
