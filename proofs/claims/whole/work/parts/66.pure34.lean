/-! THE TAPE: a part; all of it -/
section
variable {N n : Nat} {tp : Nat → Int32} {T T' T'' : TM} {I I' I'' I1 Im Im' Im'' M1 : IM} {J J' J'' Jm Jm' Jm'' J1 : JM} {P P' P'' : PM}
def mPart (N : Nat) (I : IM) (J : JM) : Option (IM × JM) := (if (F_X12_kindHere I J) < 0 then (if (F_X12_lawHere I J) < 0 then (if (F_X12_isWord I J 158575) = 0 then (some (up2 I 101 14 0, J)) else (F_X12_wantHand N I J)) else (letb (F_X12_lawHere I J) (fun y47 : Int32 => ((F_X12_advance N I J).bind (fun x48 => ((F_X12_wantNumber N x48.1 x48.2 0 63).bind (fun x49 => (if inb y47 6 = true then (F_X12_wantEnd N (up2 x49.2.1 109 y47.toNatClampNeg x49.1) x49.2.2) else none)))))))) else (F_X12_wantCard N I J (F_X12_kindHere I J)))
theorem m_70 {f : Nat} (h14 : ¬ I 101 14 = 0) (h9 : ¬ I 101 9 = 0) : G_X12_cards_70 N (f + 1) I J = (mPart N I J).bind (fun x => G_X12_cards_70 N f x.1 x.2) := by
  rw [G_X12_cards_70, if_neg h14, if_neg h9]
  unfold mPart
  by_cases a : F_X12_kindHere I J < 0
  · rw [if_pos a, if_pos a]
    by_cases b : F_X12_lawHere I J < 0
    · rw [if_pos b, if_pos b]
      by_cases c : F_X12_isWord I J 158575 = 0
      · rw [if_pos c, if_pos c]
        rfl
      · rw [if_neg c, if_neg c]
    · rw [if_neg b, if_neg b]
      simp only [letb]
      generalize F_X12_lawHere I J = y
      cases F_X12_advance N I J with
      | none => rfl
      | some x =>
        simp only [Option.bind_some]
        cases F_X12_wantNumber N x.1 x.2 0 63 with
        | none => rfl
        | some w =>
          simp only [Option.bind_some]
          by_cases d : inb y 6 = true
          · rw [if_pos d, if_pos d]
          · rw [if_neg d, if_neg d]
            rfl
  · rw [if_neg a, if_neg a]
theorem b_part (hN : 201 ≤ N) (ok : TpOK n tp) {q m : Nat} (h60 : 60 ≤ T.1) (hX : XS n tp I q) (hM : MG n tp Im Jm q) (hD : DRl T I P Im m) : ∃ T' I' J' P' Im' Jm', F_X6_readPart N T I J P = some (T', I', J', P') ∧ mPart N Im Jm = some (Im', Jm') ∧ Out n tp q T T' I I' J J' P P' Im Im' Jm Jm' := by
  have h200 := ok.1
  have hq := hM.2.2.2.1
  have hs : sk tp q = q := sk_id hM.2.2.2.2
  obtain ⟨k1, k0⟩ := m_kind ok hq hM.2.1
  obtain ⟨l1, l0⟩ := m_law ok hq hM.2.1
  have c6 : (158575 : Int64) = o64 (cdN.getD 6 0) := by decide
  obtain ⟨w1, w0⟩ := m_isWord ok (k := 6) (by decide) hq hM.2.1
  have m1l : (-1 : Int32) < 0 := by decide
  rcases Classical.em (∃ a, a < 6 ∧ nmA tp a q) with ⟨a, ha, hna⟩ | hl
  · have ek : F_X12_kindHere Im Jm = -1 := k0 (fun kd hkd z => by have := name_ne ok (by omega) (by omega) hq z hna; omega)
    have el : F_X12_lawHere Im Jm = nI a := l1 a ha hna
    obtain ⟨T', I', J', P', Im', Jm', x1, x2, x3⟩ := b_law (T := T) (J := J) (P := P) hN ok ha hna hX hs hM hD
    refine ⟨T', I', J', P', Im', Jm', x1, ?_, x3⟩
    unfold mPart
    rw [ek, if_pos m1l, el, if_neg (nI_pos (by omega))]
    simp only [letb]
    have ib : inb (nI a) 6 = true := inbN ha (by decide)
    have cl : (nI a).toNatClampNeg = a := nI_clamp (by omega)
    simp only [ib, cl, if_true]
    exact x2
  · have hl' : ∀ a, a < 6 → ¬ nmA tp a q := fun a ha z => hl ⟨a, ha, z⟩
    have el : F_X12_lawHere Im Jm = -1 := l0 hl'
    obtain ⟨I1, f', p1, e1, s1, g1, f1⟩ := x_lawN (T := T) (J := J) (P := P) (N := N) hN ok 6 0 q I rfl hX hs (fun a _ b => hl' a b) N (by omega)
    have ex : F_X6_readPart N T I J P = ((F_X6_passName N I1 6).bind (fun x2 => (if x2.1 = 0 then ((F_X6_readCard N T x2.2 J P).bind (fun x5 => (some (x5.1, x5.2.1, x5.2.2.1, x5.2.2.2)))) else ((F_X6_readHand N x2.2).bind (fun x7 => (some (T, x7, J, P))))))) := by
      have : F_X6_readPart N T I J P = G_X6_readPart_2 N T J P N (nI 0) I := rfl
      rw [this, e1, G_X6_readPart_2, if_pos (by decide)]
    obtain ⟨n1, n0⟩ := x_name (k := 6) hN ok (by decide) s1
    rw [g1] at n1 n0
    rcases Classical.em (nmA tp 6 q) with z6 | z6
    · have ek : F_X12_kindHere Im Jm = -1 := k0 (fun kd hkd z => by have := name_ne ok (by omega) (by omega) hq z z6; omega)
      obtain ⟨te, le⟩ := name_end ok (by decide) hq z6
      obtain ⟨I2, e2, s2, f2⟩ := n1 z6
      obtain ⟨M1, J1, a1, b1, g1'⟩ := m_adv hN ok hM
      rw [te] at b1
      have hs6 : sl 6 = 4 := by decide
      obtain ⟨I3, M3, J3, x1, x2, x3, x4, x5, x6, x7⟩ := b_hand5 (N := N) hN ok (k := q) 5 0 (q + sl 6) 0 I2 M1 J1 rfl s2 (by omega) b1 (fun j hj => by omega) rfl (by omega) (fun e => by omega) N N (by omega) (by omega)
      refine ⟨T, I3, J, P, M3, J3, ?_, ?_, ((f1.tr f2).f2.tr x3).frc, (g1'.f2.tr x4).frm, ?_⟩
      · rw [ex, e2]
        simp only [Option.bind_some]
        rw [if_neg n10]
        unfold F_X6_readHand
        have x1' : G_X6_readHand_4 N N 0 0 I2 = some I3 := x1
        rw [x1']
        rfl
      · unfold mPart
        rw [ek, if_pos m1l, el, if_pos m1l, c6, w1 z6, if_neg n10]
        unfold F_X12_wantHand
        rw [a1]
        exact x2
      · rcases x7 with ⟨p', y1, y2, y3, y4⟩ | ⟨f0, y1, y2⟩
        · refine Or.inl ⟨p', m, y1, y2, y3, ?_⟩
          obtain ⟨d1, d2, d3⟩ := (hD.ft (f1.tr f2)).op g1'
          refine ⟨?_, ?_, y4⟩
          · rw [x3.1 75 (by decide) (by decide) (by decide), x4.2.1 15 (by decide) (by decide) (by decide) (by decide) (by decide), x4.1 108 (by decide) (by decide) (by decide)]
            exact d1.fr (fun x h1 _ => x3.1 x (by omega) (by omega) (by omega))
          · rw [x5, x6]; exact d2
        · exact Or.inr ⟨f0, y1, y2⟩
    · obtain ⟨I2, e2, s2, f2⟩ := n0 z6
      have hD2 := hD.ft (f1.tr f2)
      rw [e2] at ex
      simp only [Option.bind_some, if_true] at ex
      rcases Classical.em (∃ a, a < 6 ∧ nmA tp (7 + a) q) with ⟨a, ha, hna⟩ | hk
      · have ek : F_X12_kindHere Im Jm = nI a := k1 a ha hna
        obtain ⟨T', I', J', P', Im', Jm', x1, x2, x3⟩ := b_card (T := T) (J := J) (P := P) hN ok ha hna h60 s2 hs hM hD2 rfl
        refine ⟨T', I', J', P', Im', Jm', ?_, ?_, x3.pre (f1.tr f2) (FOp.re _ _) (Nat.le_refl _)⟩
        · rw [ex, x1]
          rfl
        · unfold mPart
          rw [ek, if_neg (nI_pos (by omega))]
          exact x2
      · have hk' : ∀ a, a < 6 → ¬ nmA tp (7 + a) q := fun a ha z => hk ⟨a, ha, z⟩
        have ek : F_X12_kindHere Im Jm = -1 := k0 hk'
        have hm6 := hD2.1.1
        have key : ∃ I3, F_X6_readCard N T I2 J P = some (T, I3, J, P) ∧ XFl n tp I3 q ∧ FT I2 I3 := by
          rw [xR_eq, hD2.1.2.1]
          by_cases h6 : m < 6
          · have n6 : ¬ (6 : Int32) ≤ nI m := nI_ge (a := m) (b := 6) h6 (by decide)
            obtain ⟨I3, p3, e3, s3, g3, f3, z3⟩ := x_kindN (N := N) hN ok 6 0 q I2 rfl s2 hs (fun a _ b => hk' a b) N (by omega)
            have e3' : F_X6_passKind N I2 = some (-1, I3) := e3
            have hp3 := z3 (by decide)
            subst hp3
            obtain ⟨I4, e4, s4, f4⟩ := x_blame s3
            refine ⟨I4, ?_, s4, f3.tr f4⟩
            rw [if_neg n6, e3']
            simp only [Option.bind_some]
            rw [if_neg (by decide), e4]
            rfl
          · have e6 : m = 6 := by omega
            subst e6
            obtain ⟨I4, e4, s4, f4⟩ := x_blame s2
            refine ⟨I4, ?_, s4, f4⟩
            rw [if_pos (by decide), e4]
            rfl
        obtain ⟨I3, e3, s3, f3⟩ := key
        refine ⟨T, I3, J, P, up2 Im 101 14 0, Jm, ?_, ?_, Out.bad ((f1.tr f2).tr f3) FOp.s14 s3 (up14f hM.1 hM.2.1.1 rfl)⟩
        · rw [ex, e3]
          rfl
        · unfold mPart
          rw [ek, if_pos m1l, el, if_pos m1l, c6, w0 z6, if_pos rfl]
/-- all parts -/
theorem b_loop (hN : 201 ≤ N) (ok : TpOK n tp) : ∀ (d q u m : Nat) (T : TM) (I : IM) (J : JM) (P : PM) (Im : IM) (Jm : JM), n - q ≤ d → XS n tp I q → MG n tp Im Jm q → DRl T I P Im m → 60 ≤ T.1 → u ≤ q → ∀ f g, d + 1 < f → d + 1 < g → ∃ fl T' I' J' P' Im' Jm' g', G_X6_readInto_16 N f (nI u) T I J P = some (fl, T', I', J', P') ∧ G_X12_cards_70 N g Im Jm = G_X12_cards_70 N (g' + 1) Im' Jm' ∧ FrC T T' I I' J J' P P' ∧ FRm Im Im' Jm Jm' ∧ ((fl = -1 ∧ Im' 101 14 = 1 ∧ Im' 101 9 = 0 ∧ ∃ m', DRl T' I' P' Im' m') ∨ ∃ f0, fl = nI f0 ∧ f0 ≤ n ∧ MFl n tp Im' f0) := by
  have h200 := ok.1
  intro d
  induction d with
  | zero =>
    intro q u m T I J P Im Jm hd hX hM hD h60 hu f g hf hg
    obtain ⟨f, rfl⟩ : ∃ z, f = z + 1 := ⟨f - 1, by omega⟩
    obtain ⟨g, rfl⟩ : ∃ z, g = z + 1 := ⟨g - 1, by omega⟩
    have hq := hM.2.2.2.1
    have e : q = n := by omega
    refine ⟨-1, T, I, J, P, Im, Jm, g, ?_, rfl, FrC.re _ _ _ _, FRm.re _ _, Or.inl ⟨rfl, hM.2.2.1, by rw [hM.2.1.2.1]; exact (srt_0 ok hq).mpr e, m, hD⟩⟩
    rw [G_X6_readInto_16, hX.2.2.2, hX.good, if_neg n10, hX.1.1, hX.2.1, if_pos (nI_le (by omega) (by omega)), ite_self]
  | succ d ih =>
    intro q u m T I J P Im Jm hd hX hM hD h60 hu f g hf hg
    obtain ⟨f, rfl⟩ : ∃ z, f = z + 1 := ⟨f - 1, by omega⟩
    obtain ⟨g, rfl⟩ : ∃ z, g = z + 1 := ⟨g - 1, by omega⟩
    have hq := hM.2.2.2.1
    by_cases e : q = n
    · refine ⟨-1, T, I, J, P, Im, Jm, g, ?_, rfl, FrC.re _ _ _ _, FRm.re _ _, Or.inl ⟨rfl, hM.2.2.1, by rw [hM.2.1.2.1]; exact (srt_0 ok hq).mpr e, m, hD⟩⟩
      rw [G_X6_readInto_16, hX.2.2.2, hX.good, if_neg n10, hX.1.1, hX.2.1, if_pos (nI_le (by omega) (by omega)), ite_self]
    · have h9 : ¬ Im 101 9 = 0 := by rw [hM.2.1.2.1]; exact fun z => e ((srt_0 ok hq).mp z)
      have h14 : ¬ Im 101 14 = 0 := by rw [hM.2.2.1]; exact n10
      obtain ⟨T', I', J', P', Im', Jm', x1, x2, x3, x4, x5⟩ := b_part (J := J) hN ok h60 hX hM hD
      have hx : G_X6_readInto_16 N (f + 1) (nI u) T I J P = ((F_X6_skipBlanks N I').bind (fun x12 => (G_X6_readInto_16 N f (nI (u + 1)) T' x12 J' P'))) := by
        rw [G_X6_readInto_16, if_neg (show ¬ (200 : Int32) ≤ nI u from nI_ge (a := u) (b := 200) (by omega) (by decide)), hX.good, if_neg n10, hX.1.1, hX.2.1, if_neg (nI_ge (by omega) (by omega)), x1, nI_1]
        rfl
      have hm : G_X12_cards_70 N (g + 1) Im Jm = G_X12_cards_70 N g Im' Jm' := by
        rw [m_70 h14 h9, x2]
        rfl
      rw [hx, hm]
      rcases x5 with ⟨p, m', y1, y2, y3, y4⟩ | ⟨f0, y1, y2⟩
      · obtain ⟨I2, e2, s2, f2⟩ := x_skip hN ok y1
        have hsk := sk_sp ok y1.2.2.1
        have ht := x3.1.1
        obtain ⟨fl, T3, I3, J3, P3, M3, Jm3, g3, z1, z2, z3, z4, z5⟩ := ih (sk tp p) (u + 1) m' T' I2 J' P' Im' Jm' (by omega) s2 y3 (y4.ft f2) (by omega) (by omega) f g (by omega) (by omega)
        refine ⟨fl, T3, I3, J3, P3, M3, Jm3, g3, ?_, z2, (x3.tr f2.frc).tr z3, x4.tr z4, z5⟩
        rw [e2]
        exact z1
      · obtain ⟨I2, e2, s2, f2⟩ := x_skip_f hN ok y1
        obtain ⟨f, rfl⟩ : ∃ z, f = z + 1 := ⟨f - 1, by omega⟩
        obtain ⟨g, rfl⟩ : ∃ z, g = z + 1 := ⟨g - 1, by omega⟩
        refine ⟨nI f0, T', I2, J', P', Im', Jm', g, ?_, rfl, x3.tr f2.frc, x4, Or.inr ⟨f0, rfl, s2.2.2.2, y2⟩⟩
        rw [e2]
        simp only [Option.bind_some]
        rw [G_X6_readInto_16, s2.bad ok, s2.2.2.1]
        simp only [if_true, ite_self]
/-! the copies of the reference -/
theorem m_17 {m0 : Nat} : ∀ (m i : Nat) (I : IM), i + m = 6 → ∀ f, m < f → ∃ I', G_X12_cards_17 m0 J f (nI i) I = G_X12_cards_43 m0 J m0 0 I' ∧ (∀ x, x ≠ 109 → I' x = I x) ∧ (∀ j, j < i → I' 109 j = I 109 j) ∧ ∀ j, i ≤ j → j < 6 → I' 109 j = I 103 j := by
  intro m
  induction m with
  | zero =>
    intro i I hi f hf
    obtain ⟨f, rfl⟩ : ∃ z, f = z + 1 := ⟨f - 1, by omega⟩
    refine ⟨I, ?_, fun _ _ => rfl, fun _ _ => rfl, fun j a b => by omega⟩
    rw [G_X12_cards_17, if_pos (by rw [show i = 6 by omega]; decide)]
  | succ m ih =>
    intro i I hi f hf
    obtain ⟨f, rfl⟩ : ∃ z, f = z + 1 := ⟨f - 1, by omega⟩
    obtain ⟨I1, e, f1, f2, f3⟩ := ih (i + 1) (up2 I 109 i (I 103 i)) (by omega) f (by omega)
    refine ⟨I1, ?_, fun x hx => by rw [f1 x hx, up2_oth _ _ _ hx], fun j hj => by rw [f2 j (by omega), up2_n _ _ (by omega)], fun j a b => ?_⟩
    · rw [G_X12_cards_17, if_neg (show ¬ (6 : Int32) ≤ nI i from nI_ge (a := i) (b := 6) (by omega) (by decide)), if_pos (inbN (by omega) (by decide)), if_pos (inbN (by omega) (by decide)), nI_clamp (by omega), nI_1]
      exact e
    · by_cases z : j = i
      · rw [z, f2 i (by omega), up2_s]
      · rw [f3 j (by omega) b, up2_oth _ _ _ (by decide)]
theorem m_43 {m0 : Nat} : ∀ (m i : Nat) (I : IM), i + m = 5 → ∀ f, m < f → ∃ I', G_X12_cards_43 m0 J f (nI i) I = ((F_X12_advance m0 I' J).bind (fun x8 => (G_X12_cards_70 m0 m0 x8.1 x8.2))) ∧ (∀ x, x ≠ 110 → I' x = I x) ∧ (∀ j, j < i → I' 110 j = I 110 j) ∧ ∀ j, i ≤ j → j < 5 → I' 110 j = I 104 j := by
  intro m
  induction m with
  | zero =>
    intro i I hi f hf
    obtain ⟨f, rfl⟩ : ∃ z, f = z + 1 := ⟨f - 1, by omega⟩
    refine ⟨I, ?_, fun _ _ => rfl, fun _ _ => rfl, fun j a b => by omega⟩
    rw [G_X12_cards_43, if_pos (by rw [show i = 5 by omega]; decide)]
  | succ m ih =>
    intro i I hi f hf
    obtain ⟨f, rfl⟩ : ∃ z, f = z + 1 := ⟨f - 1, by omega⟩
    obtain ⟨I1, e, f1, f2, f3⟩ := ih (i + 1) (up2 I 110 i (I 104 i)) (by omega) f (by omega)
    refine ⟨I1, ?_, fun x hx => by rw [f1 x hx, up2_oth _ _ _ hx], fun j hj => by rw [f2 j (by omega), up2_n _ _ (by omega)], fun j a b => ?_⟩
    · rw [G_X12_cards_43, if_neg (lt5n (by omega)), if_pos (inbN (by omega) (by decide)), if_pos (inbN (by omega) (by decide)), nI_clamp (by omega), nI_1]
      exact e
    · by_cases z : j = i
      · rw [z, f2 i (by omega), up2_s]
      · rw [f3 j (by omega) b, up2_oth _ _ _ (by decide)]
theorem m_193 {m0 : Nat} : ∀ (m i : Nat) (I : IM), i + m = 24 → ∀ f, m < f → ∃ I', G_X12_cards_193 m0 J f (nI i) I = G_X12_cards_219 m0 J m0 0 I' ∧ (∀ x, x ≠ 102 → I' x = I x) ∧ (∀ j, j < i → I' 102 j = I 102 j) ∧ ∀ j, i ≤ j → j < 24 → I' 102 j = I 108 j := by
  intro m
  induction m with
  | zero =>
    intro i I hi f hf
    obtain ⟨f, rfl⟩ : ∃ z, f = z + 1 := ⟨f - 1, by omega⟩
    refine ⟨I, ?_, fun _ _ => rfl, fun _ _ => rfl, fun j a b => by omega⟩
    rw [G_X12_cards_193, if_pos (by rw [show i = 24 by omega]; decide)]
  | succ m ih =>
    intro i I hi f hf
    obtain ⟨f, rfl⟩ : ∃ z, f = z + 1 := ⟨f - 1, by omega⟩
    obtain ⟨I1, e, f1, f2, f3⟩ := ih (i + 1) (up2 I 102 i (I 108 i)) (by omega) f (by omega)
    refine ⟨I1, ?_, fun x hx => by rw [f1 x hx, up2_oth _ _ _ hx], fun j hj => by rw [f2 j (by omega), up2_n _ _ (by omega)], fun j a b => ?_⟩
    · rw [G_X12_cards_193, if_neg (show ¬ (24 : Int32) ≤ nI i from nI_ge (a := i) (b := 24) (by omega) (by decide)), if_pos (inbN (by omega) (by decide)), if_pos (inbN (by omega) (by decide)), nI_clamp (by omega), nI_1]
      exact e
    · by_cases z : j = i
      · rw [z, f2 i (by omega), up2_s]
      · rw [f3 j (by omega) b, up2_oth _ _ _ (by decide)]
theorem m_219 {m0 : Nat} : ∀ (m i : Nat) (I : IM), i + m = 6 → ∀ f, m < f → ∃ I', G_X12_cards_219 m0 J f (nI i) I = G_X12_cards_245 m0 J m0 0 I' ∧ (∀ x, x ≠ 103 → I' x = I x) ∧ (∀ j, j < i → I' 103 j = I 103 j) ∧ ∀ j, i ≤ j → j < 6 → I' 103 j = I 109 j := by
  intro m
  induction m with
  | zero =>
    intro i I hi f hf
    obtain ⟨f, rfl⟩ : ∃ z, f = z + 1 := ⟨f - 1, by omega⟩
    refine ⟨I, ?_, fun _ _ => rfl, fun _ _ => rfl, fun j a b => by omega⟩
    rw [G_X12_cards_219, if_pos (by rw [show i = 6 by omega]; decide)]
  | succ m ih =>
    intro i I hi f hf
    obtain ⟨f, rfl⟩ : ∃ z, f = z + 1 := ⟨f - 1, by omega⟩
    obtain ⟨I1, e, f1, f2, f3⟩ := ih (i + 1) (up2 I 103 i (I 109 i)) (by omega) f (by omega)
    refine ⟨I1, ?_, fun x hx => by rw [f1 x hx, up2_oth _ _ _ hx], fun j hj => by rw [f2 j (by omega), up2_n _ _ (by omega)], fun j a b => ?_⟩
    · rw [G_X12_cards_219, if_neg (show ¬ (6 : Int32) ≤ nI i from nI_ge (a := i) (b := 6) (by omega) (by decide)), if_pos (inbN (by omega) (by decide)), if_pos (inbN (by omega) (by decide)), nI_clamp (by omega), nI_1]
      exact e
    · by_cases z : j = i
      · rw [z, f2 i (by omega), up2_s]
      · rw [f3 j (by omega) b, up2_oth _ _ _ (by decide)]
theorem m_245 {m0 : Nat} : ∀ (m i : Nat) (I : IM), i + m = 5 → ∀ f, m < f → ∃ I', G_X12_cards_245 m0 J f (nI i) I = some (I' 101 0, up2 (up2 I' 106 0 (-1)) 101 36 0, J) ∧ (∀ x, x ≠ 104 → I' x = I x) ∧ (∀ j, j < i → I' 104 j = I 104 j) ∧ ∀ j, i ≤ j → j < 5 → I' 104 j = I 110 j := by
  intro m
  induction m with
  | zero =>
    intro i I hi f hf
    obtain ⟨f, rfl⟩ : ∃ z, f = z + 1 := ⟨f - 1, by omega⟩
    refine ⟨I, ?_, fun _ _ => rfl, fun _ _ => rfl, fun j a b => by omega⟩
    rw [G_X12_cards_245, if_pos (by rw [show i = 5 by omega]; decide)]
    simp only [letb]
    rw [up2_n _ _ (show ¬ (101 = 101 ∧ 0 = 36) by decide), up2_oth _ _ _ (show 101 ≠ 106 by decide)]
  | succ m ih =>
    intro i I hi f hf
    obtain ⟨f, rfl⟩ : ∃ z, f = z + 1 := ⟨f - 1, by omega⟩
    obtain ⟨I1, e, f1, f2, f3⟩ := ih (i + 1) (up2 I 104 i (I 110 i)) (by omega) f (by omega)
    refine ⟨I1, ?_, fun x hx => by rw [f1 x hx, up2_oth _ _ _ hx], fun j hj => by rw [f2 j (by omega), up2_n _ _ (by omega)], fun j a b => ?_⟩
    · rw [G_X12_cards_245, if_neg (lt5n (by omega)), if_pos (inbN (by omega) (by decide)), if_pos (inbN (by omega) (by decide)), nI_clamp (by omega), nI_1]
      exact e
    · by_cases z : j = i
      · rw [z, f2 i (by omega), up2_s]
      · rw [f3 j (by omega) b, up2_oth _ _ _ (by decide)]
/-- the reference begins -/
theorem m_start (hN : 201 ≤ N) (ok : TpOK n tp) (hT : TpM I n tp) : ∃ Im Jm, F_X12_cards N I J = G_X12_cards_70 N N Im Jm ∧ MG n tp Im Jm (sk tp 0) ∧ Im 101 15 = nI 0 ∧ (∀ j, j < 6 → Im 109 j = I 103 j) ∧ (∀ j, j < 5 → Im 110 j = I 104 j) ∧ FRm I Im J Jm := by
  unfold F_X12_cards
  simp only [letb]
  generalize hI3 : up2 (up2 (up2 I 101 11 0) 101 14 1) 101 15 0 = I3
  have i3 : (∀ x, x ≠ 101 → I3 x = I x) ∧ (∀ y, y ≠ 11 → y ≠ 14 → y ≠ 15 → I3 101 y = I 101 y) ∧ I3 101 11 = nI 0 ∧ I3 101 14 = 1 ∧ I3 101 15 = nI 0 := by
    subst hI3
    refine ⟨fun x hx => by rw [up2_oth _ _ _ hx, up2_oth _ _ _ hx, up2_oth _ _ _ hx], fun y a b c => by rw [up2_n _ _ (by omega), up2_n _ _ (by omega), up2_n _ _ (by omega)], rfl, rfl, rfl⟩
  obtain ⟨a1, a2, a3, a4, a5⟩ := i3
  obtain ⟨I4, e4, b1, -, b2⟩ := m_17 (m0 := N) (J := J) 6 0 I3 rfl N (by omega)
  obtain ⟨I5, e5, c1, -, c2⟩ := m_43 (m0 := N) (J := J) 5 0 I4 rfl N (by omega)
  have h101 : I5 101 = I3 101 := by rw [c1 101 (by decide), b1 101 (by decide)]
  have hT5 : TpM I5 n tp := ⟨by rw [h101, a2 8 (by decide) (by decide) (by decide)]; exact hT.1, fun j hj => by rw [c1 107 (by decide), b1 107 (by decide), a1 107 (by decide)]; exact hT.2 j hj⟩
  obtain ⟨I6, J6, e6, s6, f6⟩ := m_advance (J := J) hN ok hT5 (e := 0) (by omega) (by rw [h101]; exact a3)
  obtain ⟨g1, g2, g3⟩ := sk_sp ok (p := 0) (by omega)
  refine ⟨I6, J6, ?_, ⟨hT5.op f6.op, s6, ?_, g2, g3⟩, ?_, fun j hj => ?_, fun j hj => ?_, ?_, ?_, f6.2.2⟩
  · have e4' : G_X12_cards_17 N J N 0 I3 = G_X12_cards_43 N J N 0 I4 := e4
    have e5' : G_X12_cards_43 N J N 0 I4 = ((F_X12_advance N I5 J).bind (fun x8 => (G_X12_cards_70 N N x8.1 x8.2))) := e5
    rw [e4', e5', e6]
    rfl
  · rw [f6.2.1 14 (by decide) (by decide) (by decide) (by decide), h101]; exact a4
  · rw [f6.2.1 15 (by decide) (by decide) (by decide) (by decide), h101]; exact a5
  · rw [f6.1 109 (by decide), c1 109 (by decide), b2 j (by omega) hj, a1 103 (by decide)]
  · rw [f6.1 110 (by decide), c2 j (by omega) hj, b1 104 (by decide), a1 104 (by decide)]
  · intro x x1 x2 x3 x4
    rw [f6.1 x x1, c1 x x4, b1 x x3, a1 x x1]
  · intro y y1 y2 y3 y4 y5 y6
    rw [f6.2.1 y y1 y2 y3 y4, h101, a2 y y3 y5 y6]
/-- the reference ends well -/
theorem m_fin {g : Nat} (hN : 201 ≤ N) (h14 : I 101 14 = 1) (h9 : I 101 9 = 0) : ∃ I', G_X12_cards_70 N (g + 1) I J = some (I 101 15, I', J) ∧ (∀ x, x ≠ 101 → x ≠ 102 → x ≠ 103 → x ≠ 104 → x ≠ 106 → I' x = I x) ∧ (∀ y, y ≠ 0 → y ≠ 8 → y ≠ 36 → I' 101 y = I 101 y) ∧ I' 101 0 = I 101 15 ∧ I' 101 8 = 0 ∧ I' 101 36 = 0 ∧ I' 106 0 = -1 ∧ (∀ j, j < 24 → I' 102 j = I 108 j) ∧ (∀ j, j < 6 → I' 103 j = I 109 j) ∧ ∀ j, j < 5 → I' 104 j = I 110 j := by
  generalize hI1 : up2 (up2 I 101 8 0) 101 0 (I 101 15) = I1
  have i1 : (∀ x, x ≠ 101 → I1 x = I x) ∧ (∀ y, y ≠ 0 → y ≠ 8 → I1 101 y = I 101 y) ∧ I1 101 0 = I 101 15 ∧ I1 101 8 = 0 := by
    subst hI1
    refine ⟨fun x hx => by rw [up2_oth _ _ _ hx, up2_oth _ _ _ hx], fun y a b => by rw [up2_n _ _ (by omega), up2_n _ _ (by omega)], rfl, rfl⟩
  obtain ⟨a1, a2, a3, a4⟩ := i1
  obtain ⟨I2, e2, b1, -, b2⟩ := m_193 (m0 := N) (J := J) 24 0 I1 rfl N (by omega)
  obtain ⟨I3, e3, c1, -, c2⟩ := m_219 (m0 := N) (J := J) 6 0 I2 rfl N (by omega)
  obtain ⟨I4, e4, d1, -, d2⟩ := m_245 (m0 := N) (J := J) 5 0 I3 rfl N (by omega)
  have h101 : I4 101 = I1 101 := by rw [d1 101 (by decide), c1 101 (by decide), b1 101 (by decide)]
  have e2' : G_X12_cards_193 N J N 0 I1 = G_X12_cards_219 N J N 0 I2 := e2
  have e3' : G_X12_cards_219 N J N 0 I2 = G_X12_cards_245 N J N 0 I3 := e3
  have e4' : G_X12_cards_245 N J N 0 I3 = some (I4 101 0, up2 (up2 I4 106 0 (-1)) 101 36 0, J) := e4
  refine ⟨up2 (up2 I4 106 0 (-1)) 101 36 0, ?_, fun x x1 x2 x3 x4 x5 => ?_, fun y y1 y2 y3 => ?_, ?_, ?_, up2_s _ _ _ _, ?_, fun j hj => ?_, fun j hj => ?_, fun j hj => ?_⟩
  · rw [G_X12_cards_70, h14, if_neg n10, h9, if_pos rfl]
    simp only [letb]
    rw [up2_n _ _ (show ¬ (101 = 101 ∧ 14 = 8) by decide), h14, if_neg n10, up2_n _ _ (show ¬ (101 = 101 ∧ 15 = 8) by decide), hI1, e2', e3', e4', h101, a3]
  · rw [up2_oth _ _ _ x1, up2_oth _ _ _ x5, d1 x x4, c1 x x3, b1 x x2, a1 x x1]
  · rw [up2_n _ _ (by omega), up2_oth _ _ _ (by decide), h101, a2 y y1 y2]
  · rw [up2_n _ _ (by omega), up2_oth _ _ _ (by decide), h101, a3]
  · rw [up2_n _ _ (by omega), up2_oth _ _ _ (by decide), h101, a4]
  · rw [up2_oth _ _ _ (by decide), up2_s]
  · rw [up2_oth _ _ _ (by decide), up2_oth _ _ _ (by decide), d1 102 (by decide), c1 102 (by decide), b2 j (by omega) hj, a1 108 (by decide)]
  · rw [up2_oth _ _ _ (by decide), up2_oth _ _ _ (by decide), d1 103 (by decide), c2 j (by omega) hj, b1 109 (by decide), a1 109 (by decide)]
  · rw [up2_oth _ _ _ (by decide), up2_oth _ _ _ (by decide), d2 j (by omega) hj, c1 110 (by decide), b1 110 (by decide), a1 110 (by decide)]
end
