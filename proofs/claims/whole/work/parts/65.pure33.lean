/-! THE TAPE: a law, a hand -/
section
variable {N n : Nat} {tp : Nat → Int32} {T T' T'' : TM} {I I' I'' I1 Im Im' Im'' M1 : IM} {J J' J'' Jm Jm' Jm'' J1 : JM} {P P' P'' : PM}
def FT2 (I I' : IM) : Prop := (∀ x, x ≠ 77 → x ≠ 78 → x ≠ 80 → I' x = I x) ∧ ∀ y, y ≠ 2 → y ≠ 3 → I' 80 y = I 80 y
def FO2 (I I' : IM) (J J' : JM) : Prop := (∀ x, x ≠ 101 → x ≠ 109 → x ≠ 110 → I' x = I x) ∧ (∀ y, y ≠ 9 → y ≠ 10 → y ≠ 11 → y ≠ 13 → y ≠ 14 → I' 101 y = I 101 y) ∧ ∀ x, x ≠ 101 → J' x = J x
theorem FT.f2 (h : FT I I') : FT2 I I' := ⟨fun x _ _ a => h.1 x a, h.2⟩
theorem FT2.tr (h : FT2 I I') (h2 : FT2 I' I'') : FT2 I I'' := ⟨fun x a b c => (h2.1 x a b c).trans (h.1 x a b c), fun y a b => (h2.2 y a b).trans (h.2 y a b)⟩
theorem FT2.s77 {k : Nat} {v : Int32} : FT2 I (up2 I 77 k v) := ⟨fun x a _ _ => up2_oth _ _ _ a, fun y _ _ => by rw [up2_oth _ _ _ (by decide)]⟩
theorem FT2.s78 {k : Nat} {v : Int32} : FT2 I (up2 I 78 k v) := ⟨fun x _ a _ => up2_oth _ _ _ a, fun y _ _ => by rw [up2_oth _ _ _ (by decide)]⟩
theorem FT2.frc (h : FT2 I I') : FrC T T I I' J J P P := ⟨TE.re T, fun x _ _ a b c => h.1 x a b c, fun x h1 _ => h.1 x (by omega) (by omega) (by omega), fun y _ => by rw [h.1 75 (by decide) (by decide) (by decide)], h.2, fun _ _ => rfl, fun _ _ _ => rfl⟩
theorem FOp.f2 (h : FOp I I' J J') : FO2 I I' J J' := ⟨fun x a _ _ => h.1 x a, h.2.1, h.2.2⟩
theorem FO2.tr (h : FO2 I I' J J') (h2 : FO2 I' I'' J' J'') : FO2 I I'' J J'' := ⟨fun x a b c => (h2.1 x a b c).trans (h.1 x a b c), fun y a b c d e => (h2.2.1 y a b c d e).trans (h.2.1 y a b c d e), fun x a => (h2.2.2 x a).trans (h.2.2 x a)⟩
theorem FO2.s109 {k : Nat} {v : Int32} : FO2 I (up2 I 109 k v) J J := ⟨fun x _ a _ => up2_oth _ _ _ a, fun y _ _ _ _ _ => by rw [up2_oth _ _ _ (by decide)], fun _ _ => rfl⟩
theorem FO2.s110 {k : Nat} {v : Int32} : FO2 I (up2 I 110 k v) J J := ⟨fun x _ _ a => up2_oth _ _ _ a, fun y _ _ _ _ _ => by rw [up2_oth _ _ _ (by decide)], fun _ _ => rfl⟩
theorem FO2.frm (h : FO2 I I' J J') : FRm I I' J J' := ⟨fun x a _ c d => h.1 x a c d, fun y a b c d e _ => h.2.1 y a b c d e, h.2.2⟩
theorem XS.st {p a k : Nat} {v : Int32} (h : XS n tp I p) (h1 : 80 ≠ a) (h2 : 81 ≠ a) : XS n tp (up2 I a k v) p := by
  obtain ⟨b1, b2, b3, b4⟩ := h
  refine ⟨⟨?_, fun j hj => ?_⟩, ?_, b3, ?_⟩
  · rw [up2_oth _ _ _ h1]; exact b1.1
  · rw [up2_oth _ _ _ h2]; exact b1.2 j hj
  · rw [up2_oth _ _ _ h1]; exact b2
  · rw [up2_oth _ _ _ h1]; exact b4
theorem XFl.st {f a k : Nat} {v : Int32} (h : XFl n tp I f) (h1 : 80 ≠ a) (h2 : 81 ≠ a) : XFl n tp (up2 I a k v) f := by
  obtain ⟨b1, ⟨p, hp, b2⟩, b3, b4⟩ := h
  refine ⟨⟨?_, fun j hj => ?_⟩, ⟨p, hp, ?_⟩, ?_, b4⟩
  · rw [up2_oth _ _ _ h1]; exact b1.1
  · rw [up2_oth _ _ _ h2]; exact b1.2 j hj
  · rw [up2_oth _ _ _ h1]; exact b2
  · rw [up2_oth _ _ _ h1]; exact b3
theorem MG.st {q a k : Nat} {v : Int32} (h : MG n tp Im Jm q) (h1 : 101 ≠ a) (h2 : 107 ≠ a) : MG n tp (up2 Im a k v) Jm q := by
  obtain ⟨b1, ⟨c1, c2, c3, c4, c5⟩, b3, b4⟩ := h
  refine ⟨⟨?_, fun j hj => ?_⟩, ⟨?_, ?_, ?_, c4, ?_⟩, ?_, b4⟩
  · rw [up2_oth _ _ _ h1]; exact b1.1
  · rw [up2_oth _ _ _ h2]; exact b1.2 j hj
  · rw [up2_oth _ _ _ h1]; exact c1
  · rw [up2_oth _ _ _ h1]; exact c2
  · rw [up2_oth _ _ _ h1]; exact c3
  · rw [up2_oth _ _ _ h1]; exact c5
  · rw [up2_oth _ _ _ h1]; exact b3
theorem MFl.st {f a k : Nat} {v : Int32} (h : MFl n tp Im f) (h1 : 101 ≠ a) (h2 : 107 ≠ a) : MFl n tp (up2 Im a k v) f := by
  obtain ⟨b1, b2, b3⟩ := h
  refine ⟨⟨?_, fun j hj => ?_⟩, ?_, ?_⟩
  · rw [up2_oth _ _ _ h1]; exact b1.1
  · rw [up2_oth _ _ _ h2]; exact b1.2 j hj
  · rw [up2_oth _ _ _ h1]; exact b2
  · rw [up2_oth _ _ _ h1]; exact b3
def mLaw (N a : Nat) (I : IM) (J : JM) : Option (IM × JM) := ((F_X12_advance N I J).bind (fun x48 => ((F_X12_wantNumber N x48.1 x48.2 0 63).bind (fun x49 => (F_X12_wantEnd N (up2 x49.2.1 109 a x49.1) x49.2.2)))))
theorem b_law (hN : 201 ≤ N) (ok : TpOK n tp) {q a p m : Nat} (ha : a < 6) (hna : nmA tp a q) (hX : XS n tp I p) (hs : sk tp p = q) (hM : MG n tp Im Jm q) (hD : DRl T I P Im m) : ∃ T' I' J' P' Im' Jm', F_X6_readPart N T I J P = some (T', I', J', P') ∧ mLaw N a Im Jm = some (Im', Jm') ∧ Out n tp q T T' I I' J J' P P' Im Im' Jm Jm' := by
  have hq := hM.2.2.2.1
  obtain ⟨te, le⟩ := name_end ok (by omega) hq hna
  have hsl := sl_bd a (by omega)
  obtain ⟨I1, e1, s1, f1⟩ := x_lawY (T := T) (P := P) (J := J) hN ok ha hna hq a 0 p I (by omega) hX hs N (by omega)
  obtain ⟨M1, J1, a1, b1, g1⟩ := m_adv hN ok hM
  rw [te] at b1
  have ex : F_X6_readPart N T I J P = ((F_X6_readNumber N I1 0 63).bind (fun x10 => ((F_X6_passEnd N (up2 x10.2 77 a x10.1)).bind (fun x13 => (some (T, x13, J, P)))))) := e1
  unfold mLaw
  rw [ex, a1]
  simp only [Option.bind_some]
  obtain ⟨nx1, nx0⟩ := x_num (lo := 0) (hi := 63) hN ok s1 (by decide)
  obtain ⟨nm1, nm0⟩ := m_num (lo := 0) (hi := 63) hN ok b1
  have hsk := sk_sp ok s1.2.2.1
  by_cases c : srt tp (sk tp (q + sl a)) = 2 ∧ F_X12_in (val tp (sk tp (q + sl a))) 0 63 = 1
  · obtain ⟨I2, e2, s2, f2⟩ := nx1 c
    obtain ⟨M2, J2, a2, b2, g2⟩ := nm1 c
    generalize val tp (sk tp (q + sl a)) = v at *
    have ht := tend_sp ok hsk.2.1
    rw [e2, a2]
    simp only [Option.bind_some]
    have s3 : XS n tp (up2 I2 77 a v) (tend tp (sk tp (q + sl a))) := s2.st (by decide) (by decide)
    have b3 : MG n tp (up2 M2 109 a v) J2 (sk tp (tend tp (sk tp (q + sl a)))) := b2.st (by decide) (by decide)
    have hsk2 := sk_sp ok s3.2.2.1
    obtain ⟨xe1, xe0⟩ := x_end hN ok s3
    obtain ⟨me1, me0⟩ := m_end hN ok b3
    by_cases z : tp (sk tp (tend tp (sk tp (q + sl a)))) = 59
    · obtain ⟨I4, e4, s4, f4⟩ := xe1 z
      obtain ⟨M4, J4, a4, b4, g4⟩ := me1 z
      refine ⟨T, I4, J, P, M4, J4, by rw [e4]; rfl, a4, (((f1.tr f2).f2.tr FT2.s77).tr f4.f2).frc, (((g1.tr g2).f2.tr FO2.s109).tr g4.f2).frm, Or.inl ⟨_, m, s4, by omega, b4, ?_⟩⟩
      have hD2 := (((hD.ft f1).op g1).ft f2).op g2
      have hD3 : DRl T (up2 I2 77 a v) P (up2 M2 109 a v) m := by
        obtain ⟨c1, c2, c3⟩ := hD2
        refine ⟨CR.fr c1 (fun x h1 _ => up2_oth _ _ _ (by omega)), fun j hj => ?_, c3⟩
        rw [up2_row, up2_row]
        show (if j = a then v else I2 77 j) = if j = a then v else M2 109 j
        by_cases w : j = a
        · rw [if_pos w, if_pos w]
        · rw [if_neg w, if_neg w]; exact c2 j hj
      exact (hD3.ft f4).op g4
    · obtain ⟨I4, e4, s4, f4⟩ := xe0 z
      obtain ⟨M4, a4, b4, g4⟩ := me0 z
      exact ⟨T, I4, J, P, M4, J2, by rw [e4]; rfl, a4, (((f1.tr f2).f2.tr FT2.s77).tr f4.f2).frc, (((g1.tr g2).f2.tr FO2.s109).tr g4.f2).frm, Or.inr ⟨_, s4, b4⟩⟩
  · obtain ⟨I2, e2, s2, f2⟩ := nx0 c
    obtain ⟨v, M2, a2, b2, g2⟩ := nm0 c
    rw [e2, a2]
    simp only [Option.bind_some]
    obtain ⟨I4, e4, s4, f4⟩ := x_end_f hN ok (s2.st (a := 77) (k := a) (v := 0) (by decide) (by decide))
    obtain ⟨M4, a4, b4, g4⟩ := m_end_f (N := N) (J := J1) (b2.st (a := 109) (k := a) (v := v) (by decide) (by decide))
    exact ⟨T, I4, J, P, M4, J1, by rw [e4]; rfl, a4, (((f1.tr f2).f2.tr FT2.s77).tr f4.f2).frc, (((g1.tr g2).f2.tr FO2.s109).tr g4.f2).frm, Or.inr ⟨_, s4, b4⟩⟩
/-! a hand -/
def smI (H : Nat → Int32) : Nat → Int
  | 0 => 0
  | i + 1 => smI H i + (H i).toInt
theorem smI_c {H G : Nat → Int32} : ∀ (i : Nat), (∀ j, j < i → G j = H j) → smI G i = smI H i := by
  intro i
  induction i with
  | zero => intro _; rfl
  | succ i ih =>
    intro h
    unfold smI
    rw [ih (fun j hj => h j (by omega)), h i (by omega)]
theorem x_hand_f (hN : 201 ≤ N) (ok : TpOK n tp) {k : Nat} : ∀ (m i : Nat) (u : Int32) (I : IM), i + m = 5 → XFl n tp I k → ∀ f, m < f → ∃ I', G_X6_readHand_4 N f u (nI i) I = some I' ∧ XFl n tp I' k ∧ FT2 I I' ∧ I' 77 = I 77 := by
  intro m
  induction m with
  | zero =>
    intro i u I hi h f hf
    obtain ⟨f, rfl⟩ : ∃ g, f = g + 1 := ⟨f - 1, by omega⟩
    obtain ⟨I1, e1, s1, f1⟩ := x_end_f hN ok h
    refine ⟨I1, ?_, s1, f1.f2, f1.1 77 (by decide)⟩
    rw [G_X6_readHand_4, if_pos (by rw [show i = 5 by omega]; decide), e1]
    rfl
  | succ m ih =>
    intro i u I hi h f hf
    obtain ⟨f, rfl⟩ : ∃ g, f = g + 1 := ⟨f - 1, by omega⟩
    obtain ⟨I1, e1, s1, f1⟩ := x_num_f (lo := if nI i = 4 then (if u = 0 then 1 else 0) else 0) (hi := 9) hN ok h
    obtain ⟨I2, e2, s2, f2, t2⟩ := ih (i + 1) (u + (up2 I1 78 i 0) 78 i) (up2 I1 78 i 0) (by omega) (s1.st (by decide) (by decide)) f (by omega)
    refine ⟨I2, ?_, s2, (f1.f2.tr FT2.s78).tr f2, by rw [t2, up2_oth _ _ _ (by decide), f1.1 77 (by decide)]⟩
    rw [G_X6_readHand_4, if_neg (lt5n (by omega))]
    simp only [letb]
    rw [e1]
    simp only [Option.bind_some]
    rw [if_pos (inbN (by omega) (by decide)), if_pos (inbN (by omega) (by decide)), nI_clamp (by omega), nI_1]
    exact e2
theorem hd_lo {i S : Nat} {v : Int32} (hi : i < 5) (hS : S ≤ 9 * i) : (srt tp n = 2 ∧ F_X12_in v (if nI i = 4 then (if nI S = 0 then 1 else 0) else 0) 9 = 1) ↔ (if srt tp n = 2 then (if F_X12_in v 0 9 = 0 then (0 : Int32) else (if nI i < 4 then 1 else (if (nI S + v) ≤ 0 then 0 else 1))) else 0) = 1 := by
  have e4 : (nI i = 4) ↔ i = 4 := nI_eq (a := i) (b := 4) (by omega) (by decide)
  have e0 : (nI S = 0) ↔ S = 0 := nI_eq (a := S) (b := 0) (by omega) (by decide)
  have l4 : (nI i < 4) ↔ i < 4 := nI_ltI (a := i) (b := 4) (by omega) (by decide)
  by_cases c : srt tp n = 2
  · rw [if_pos c]
    rcases in0 v 0 9 (a := 0) (b := 9) rfl rfl with ⟨g, hv⟩ | ⟨g, hv⟩
    · rw [g, if_pos rfl]
      constructor
      · rintro ⟨-, h⟩
        exfalso
        by_cases z : nI i = 4 ∧ nI S = 0
        · rw [if_pos z.1, if_pos z.2] at h
          have := in_rng (a := 1) (b := 9) rfl rfl h
          omega
        · have : (if nI i = 4 then (if nI S = 0 then (1 : Int32) else 0) else 0) = 0 := by
            by_cases z1 : nI i = 4
            · rw [if_pos z1, if_neg (fun z2 => z ⟨z1, z2⟩)]
            · rw [if_neg z1]
          rw [this, g] at h
          exact absurd h (by decide)
      · intro h; exact absurd h (by decide)
    · rw [g, if_neg n10]
      by_cases z4 : i < 4
      · rw [if_pos (l4.mpr z4), if_neg (fun z => by have := e4.mp z; omega)]
        exact ⟨fun _ => rfl, fun _ => ⟨c, g⟩⟩
      · have e : i = 4 := by omega
        rw [if_neg (fun z => z4 (l4.mp z)), if_pos (e4.mpr e)]
        have hadd : (nI S + v).toInt = S + v.toInt := by rw [Int32.toInt_add, nI_toInt (by omega), Int.bmod_eq_of_le (by omega) (by omega)]
        by_cases zS : S = 0
        · rw [if_pos (e0.mpr zS)]
          by_cases w : nI S + v ≤ 0
          · rw [if_pos w]
            rw [Int32.le_iff_toInt_le, hadd, show (0 : Int32).toInt = 0 from rfl] at w
            constructor
            · rintro ⟨-, h⟩
              have := in_rng (a := 1) (b := 9) rfl rfl h
              omega
            · intro h; exact absurd h (by decide)
          · rw [if_neg w]
            rw [Int32.le_iff_toInt_le, hadd, show (0 : Int32).toInt = 0 from rfl] at w
            exact ⟨fun _ => rfl, fun _ => ⟨c, in1 (a := 1) (b := 9) rfl rfl (by omega)⟩⟩
        · rw [if_neg (fun z => zS (e0.mp z))]
          have w : ¬ nI S + v ≤ 0 := by rw [Int32.le_iff_toInt_le, hadd, show (0 : Int32).toInt = 0 from rfl]; omega
          rw [if_neg w]
          exact ⟨fun _ => rfl, fun _ => ⟨c, g⟩⟩
  · rw [if_neg c]
    exact ⟨fun h => absurd h.1 c, fun h => absurd h (by decide)⟩
theorem hd_01 {c1 c2 c3 c4 : Prop} [Decidable c1] [Decidable c2] [Decidable c3] [Decidable c4] : (if c1 then (if c2 then (0 : Int32) else (if c3 then 1 else (if c4 then 0 else 1))) else 0) = 0 ∨ (if c1 then (if c2 then (0 : Int32) else (if c3 then 1 else (if c4 then 0 else 1))) else 0) = 1 := by
  repeat' split
  all_goals simp
theorem b_hand5 (hN : 201 ≤ N) (ok : TpOK n tp) {k : Nat} : ∀ (m i p S : Nat) (I Im : IM) (Jm : JM), i + m = 5 → XS n tp I p → k < p → MG n tp Im Jm (sk tp p) → (∀ j, j < i → I 78 j = Im 110 j ∧ 0 ≤ (I 78 j).toInt ∧ (I 78 j).toInt ≤ 9) → (S : Int) = smI (I 78) i → S ≤ 9 * i → (i = 5 → 0 < S) → ∀ f g, m < f → m + 1 < g → ∃ I' Im' Jm', G_X6_readHand_4 N f (nI S) (nI i) I = some I' ∧ G_X12_wantHand_8 N g (nI S) (nI i) Im Jm = some (Im', Jm') ∧ FT2 I I' ∧ FO2 Im Im' Jm Jm' ∧ I' 77 = I 77 ∧ Im' 109 = Im 109 ∧ ((∃ p', XS n tp I' p' ∧ k < p' ∧ MG n tp Im' Jm' (sk tp p') ∧ HR (I' 78) (Im' 110)) ∨ ∃ f0, XFl n tp I' f0 ∧ MFl n tp Im' f0) := by
  intro m
  induction m with
  | zero =>
    intro i p S I Im Jm hi hX hkp hM hH hS hS9 h5 f g hf hg
    obtain ⟨f, rfl⟩ : ∃ z, f = z + 1 := ⟨f - 1, by omega⟩
    obtain ⟨g, rfl⟩ : ∃ z, g = z + 1 := ⟨g - 1, by omega⟩
    have e5 : i = 5 := by omega
    subst e5
    have hsk := sk_sp ok hX.2.2.1
    obtain ⟨xe1, xe0⟩ := x_end hN ok hX
    obtain ⟨me1, me0⟩ := m_end hN ok hM
    have p5 : (5 : Int32) ≤ nI 5 := by decide
    rw [G_X6_readHand_4, if_pos p5, G_X12_wantHand_8, if_pos p5]
    by_cases z : tp (sk tp p) = 59
    · obtain ⟨I4, e4, s4, f4⟩ := xe1 z
      obtain ⟨M4, J4, a4, b4, g4⟩ := me1 z
      refine ⟨I4, M4, J4, by rw [e4]; rfl, by rw [a4]; rfl, f4.f2, g4.f2, f4.1 77 (by decide), g4.1 109 (by decide), Or.inl ⟨_, s4, by omega, b4, ?_⟩⟩
      rw [f4.1 78 (by decide), g4.1 110 (by decide)]
      refine ⟨hH, ?_⟩
      have h0 := h5 rfl
      have hS' : (S : Int) = 0 + (I 78 0).toInt + (I 78 1).toInt + (I 78 2).toInt + (I 78 3).toInt + (I 78 4).toInt := hS
      omega
    · obtain ⟨I4, e4, s4, f4⟩ := xe0 z
      obtain ⟨M4, a4, b4, g4⟩ := me0 z
      exact ⟨I4, M4, Jm, by rw [e4]; rfl, by rw [a4]; rfl, f4.f2, g4.f2, f4.1 77 (by decide), g4.1 109 (by decide), Or.inr ⟨_, s4, b4⟩⟩
  | succ m ih =>
    intro i p S I Im Jm hi hX hkp hM hH hS hS9 h5 f g hf hg
    obtain ⟨f, rfl⟩ : ∃ z, f = z + 1 := ⟨f - 1, by omega⟩
    obtain ⟨g, rfl⟩ : ∃ z, g = z + 1 := ⟨g - 1, by omega⟩
    have hsk := sk_sp ok hX.2.2.1
    have h200 := ok.1
    have hlo : 0 ≤ (if nI i = 4 then (if nI S = 0 then (1 : Int32) else 0) else 0).toInt := by
      repeat' split
      all_goals decide
    obtain ⟨nx1, nx0⟩ := x_num (lo := if nI i = 4 then (if nI S = 0 then 1 else 0) else 0) (hi := 9) hN ok hX hlo
    have hiff := hd_lo (n := sk tp p) (tp := tp) (v := val tp (sk tp p)) (i := i) (S := S) (by omega) hS9
    rw [G_X6_readHand_4, if_neg (lt5n (by omega)), G_X12_wantHand_8, if_neg (lt5n (by omega)), hM.2.2.1, if_neg n10]
    simp only [letb]
    rw [hM.2.1.2.2.2.2, hM.2.1.2.1, if_pos (inbN (by omega) (by decide)), nI_clamp (by omega)]
    generalize hy : (if srt tp (sk tp p) = 2 then (if F_X12_in (val tp (sk tp p)) 0 9 = 0 then (0 : Int32) else (if nI i < 4 then 1 else (if (nI S + val tp (sk tp p)) ≤ 0 then 0 else 1))) else 0) = y at *
    have e14 : up2 (up2 Im 101 14 y) 110 i (val tp (sk tp p)) 101 14 = y := by rw [up2_oth _ _ _ (by decide), up2_s]
    rw [e14]
    by_cases c : srt tp (sk tp p) = 2 ∧ F_X12_in (val tp (sk tp p)) (if nI i = 4 then (if nI S = 0 then 1 else 0) else 0) 9 = 1
    · have y1 : y = 1 := hiff.mp c
      subst y1
      obtain ⟨I1, e1, s1, f1⟩ := nx1 c
      have hv9 : F_X12_in (val tp (sk tp p)) 0 9 = 1 := by
        rcases in0 (val tp (sk tp p)) 0 9 (a := 0) (b := 9) rfl rfl with ⟨w, _⟩ | ⟨w, _⟩
        · rw [w, if_pos rfl, ite_self] at hy
          exact absurd hy (by decide)
        · exact w
      have rg := in_rng (a := 0) (b := 9) rfl rfl hv9
      have hM2 : MG n tp (up2 (up2 Im 101 14 1) 110 i (val tp (sk tp p))) Jm (sk tp p) := (up14 hM rfl).st (by decide) (by decide)
      obtain ⟨M2, J2, a2, b2, g2⟩ := m_adv hN ok hM2
      have hv : val tp (sk tp p) = nI (val tp (sk tp p)).toInt.toNat := of_nat rg.1
      have ht := tend_sp ok hsk.2.1
      have last : i = 4 → 0 < (S : Int) + (val tp (sk tp p)).toInt := fun e4 => by
        subst e4
        rw [if_pos c.1, hv9, if_neg n10, if_neg (by decide)] at hy
        by_cases w : nI S + val tp (sk tp p) ≤ 0
        · rw [if_pos w] at hy; exact absurd hy (by decide)
        · rw [Int32.le_iff_toInt_le, Int32.toInt_add, nI_toInt (by omega), Int.bmod_eq_of_le (by omega) (by omega), show (0 : Int32).toInt = 0 from rfl] at w
          omega
      generalize hvv : val tp (sk tp p) = v at *
      have i78 : (up2 I1 78 i v) 78 i = v := up2_s _ _ _ _
      have hsum : nI S + v = nI (S + v.toInt.toNat) := by rw [← nI_add, ← hv]
      have hA : ∀ j, j < i + 1 → (up2 I1 78 i v) 78 j = M2 110 j ∧ 0 ≤ ((up2 I1 78 i v) 78 j).toInt ∧ ((up2 I1 78 i v) 78 j).toInt ≤ 9 := fun j hj => by
        rw [g2.1 110 (by decide)]
        by_cases w : j = i
        · subst w
          rw [up2_s, up2_s]
          exact ⟨rfl, rg⟩
        · rw [up2_n _ _ (by omega), up2_n _ _ (by omega), up2_oth _ _ _ (by decide), f1.1 78 (by decide)]
          exact hH j (by omega)
      have hB : ((S + v.toInt.toNat : Nat) : Int) = smI ((up2 I1 78 i v) 78) (i + 1) := by
        have e : smI ((up2 I1 78 i v) 78) i = smI (I 78) i := smI_c i (fun j hj => by rw [up2_n _ _ (by omega), f1.1 78 (by decide)])
        show ((S + v.toInt.toNat : Nat) : Int) = smI ((up2 I1 78 i v) 78) i + ((up2 I1 78 i v) 78 i).toInt
        rw [e, i78, ← hS]
        omega
      obtain ⟨I3, M3, J3, x1, x2, x3, x4, x5, x6, x7⟩ := ih (i + 1) (tend tp (sk tp p)) (S + v.toInt.toNat) (up2 I1 78 i v) M2 J2 (by omega) (s1.st (by decide) (by decide)) (by omega) b2 hA hB (by omega) (fun e => by omega) f g (by omega) (by omega)
      refine ⟨I3, M3, J3, ?_, ?_, (f1.f2.tr FT2.s78).tr x3, (FOp.s14.f2.tr (FO2.s110.tr g2.f2)).tr x4, ?_, ?_, x7⟩
      · rw [e1]
        simp only [Option.bind_some]
        rw [if_pos (inbN (by omega) (by decide)), if_pos (inbN (by omega) (by decide)), i78, nI_1, hsum]
        exact x1
      · rw [if_neg n10, a2]
        simp only [Option.bind_some]
        rw [nI_1, hsum]
        exact x2
      · rw [x5, up2_oth _ _ _ (by decide), f1.1 77 (by decide)]
      · rw [x6, g2.1 109 (by decide), up2_oth _ _ _ (by decide), up2_oth _ _ _ (by decide)]
    · have y0 : y = 0 := by
        rcases hd_01 (c1 := srt tp (sk tp p) = 2) (c2 := F_X12_in (val tp (sk tp p)) 0 9 = 0) (c3 := nI i < 4) (c4 := (nI S + val tp (sk tp p)) ≤ 0) with w | w
        · rw [hy] at w; exact w
        · rw [hy] at w; exact absurd (hiff.mpr w) c
      subst y0
      obtain ⟨I1, e1, s1, f1⟩ := nx0 c
      obtain ⟨I2, e2, s2, f2, t2⟩ := x_hand_f (N := N) hN ok m (i + 1) (nI S + (up2 I1 78 i 0) 78 i) (up2 I1 78 i 0) (by omega) (s1.st (by decide) (by decide)) f (by omega)
      have bM : MFl n tp (up2 (up2 Im 101 14 0) 110 i (val tp (sk tp p))) (sk tp p) := (up14f hM.1 hM.2.1.1 rfl).st (by decide) (by decide)
      obtain ⟨M4, a4, b4, g4⟩ := m_end_f (N := N) (J := Jm) bM
      have f277 : I2 77 = I 77 := by rw [t2, up2_oth _ _ _ (by decide), f1.1 77 (by decide)]
      refine ⟨I2, M4, Jm, ?_, ?_, (f1.f2.tr FT2.s78).tr f2, (FOp.s14.f2.tr FO2.s110).tr g4.f2, f277, ?_, Or.inr ⟨_, s2, b4⟩⟩
      · rw [e1]
        simp only [Option.bind_some]
        rw [if_pos (inbN (by omega) (by decide)), if_pos (inbN (by omega) (by decide)), nI_1]
        exact e2
      · rw [if_pos rfl]
        obtain ⟨g, rfl⟩ : ∃ z, g = z + 1 := ⟨g - 1, by omega⟩
        rw [G_X12_wantHand_8, bM.2.1]
        simp only [if_true]
        rw [a4]
        simp only [Option.bind_some, ite_self]
      · rw [g4.1 109 (by decide), up2_oth _ _ _ (by decide), up2_oth _ _ _ (by decide)]
end
