/-! THE TAPE: a card, whole -/
section
variable {N n : Nat} {tp : Nat → Int32} {s : Nat} {T T' T'' : TM} {I I' I'' I1 Im Im' Im'' M1 : IM} {J J' J'' Jm Jm' Jm'' J1 : JM} {P P' P'' : PM}
theorem Out.pre {q q' : Nat} (f : FT I I1) (g : FOp Im M1 Jm J1) (hq : q ≤ q') (o : Out n tp q' T T' I1 I' J J' P P' M1 Im' J1 Jm') : Out n tp q T T' I I' J J' P P' Im Im' Jm Jm' := by
  obtain ⟨a, b, c⟩ := o
  refine ⟨f.frc.tr a, g.frm.tr b, ?_⟩
  rcases c with ⟨p, m, c1, c2, c3, c4⟩ | c
  · exact Or.inl ⟨p, m, c1, by omega, c3, c4⟩
  · exact Or.inr c
theorem Out.bad {q k : Nat} (f : FT I I') (g : FOp Im Im' Jm Jm') (h1 : XFl n tp I' k) (h2 : MFl n tp Im' k) : Out n tp q T T I I' J J P P Im Im' Jm Jm' := ⟨f.frc, g.frm, Or.inr ⟨k, h1, h2⟩⟩
theorem in_rng {v lo hi : Int32} {a b : Int} (ha : lo.toInt = a) (hb : hi.toInt = b) (h : F_X12_in v lo hi = 1) : a ≤ v.toInt ∧ v.toInt ≤ b := by
  rcases in0 v lo hi ha hb with ⟨g, _⟩ | ⟨_, g⟩
  · rw [g] at h; exact absurd h (by decide)
  · exact g
theorem neg_t {v : Int32} (h : 0 ≤ v.toInt ∧ v.toInt ≤ 4) : (-v).toInt = -v.toInt := by
  rw [Int32.toInt_neg, Int.bmod_eq_of_le (by omega) (by omega)]
theorem b_clip (hN : 201 ≤ N) (ok : TpOK n tp) {p q m : Nat} {kd wt wd : Int32} (h60 : 60 ≤ T.1) (hX : XS n tp I p) (hM : MG n tp Im Jm (sk tp p)) (hD : DRl T I P Im m) (hm : m < 6) (hk : F_X12_in kd 0 5 = 1) (hw : 1 ≤ wt.toInt ∧ wt.toInt ≤ 99) (hd : 1 ≤ wd.toInt ∧ wd.toInt ≤ 9) (hq : q ≤ p) : ∃ T' I' J' P' Im' Jm', xR3 N T J P kd wt wd I = some (T', I', J', P') ∧ mW3 N kd wt wd Im Jm = some (Im', Jm') ∧ Out n tp q T T' I I' J J' P P' Im Im' Jm Jm' := by
  have hsk := sk_sp ok hX.2.2.1
  have c14 : (68056 : Int64) = o64 (cdN.getD 14 0) := by decide
  obtain ⟨w1, w0⟩ := m_isWord ok (k := 14) (by decide) hM.2.2.2.1 hM.2.1
  obtain ⟨n1, n0⟩ := x_name (k := 14) hN ok (by decide) hX
  rcases Classical.em (nmA tp 14 (sk tp p)) with z | z
  · obtain ⟨te, le⟩ := name_end ok (by decide) hsk.2.1 z
    obtain ⟨I1, e1, s1, f1⟩ := n1 z
    obtain ⟨M1, J1, a1, b1, g1⟩ := m_adv hN ok hM
    rw [te] at b1
    have hs14 : sl 14 = 4 := by decide
    have hsk5 := sk_sp ok s1.2.2.1
    have hD1 := (hD.ft f1).op g1
    have ex : xR3 N T J P kd wt wd I = ((F_X6_readClip N I1).bind (fun x36 => xR4 N T J P kd wt wd x36.1 x36.2)) := by
      unfold xR3
      rw [e1]
      simp only [Option.bind_some]
      rw [if_neg n10]
    have em : mW3 N kd wt wd Im Jm = (letb (F_X12_isMark M1 45) (fun y38 : Int32 => (if y38 = 0 then ((F_X12_wantNumber N M1 J1 0 4).bind (fun x41 => (letb (if y38 = 0 then x41.1 else (-x41.1)) (fun y43 : Int32 => mW4 N kd wt wd y43 x41.2.1 x41.2.2)))) else ((F_X12_advance N M1 J1).bind (fun x56 => ((F_X12_wantNumber N x56.1 x56.2 0 4).bind (fun x57 => (letb (if y38 = 0 then x57.1 else (-x57.1)) (fun y59 : Int32 => mW4 N kd wt wd y59 x57.2.1 x57.2.2))))))))) := by
      unfold mW3
      rw [hM.2.2.1, if_neg n10, c14, w1 z, if_neg n10, a1]
      rfl
    rw [m_isMark b1.2.1 (c := 45) (Or.inr rfl)] at em
    simp only [letb] at em
    obtain ⟨sg1, sg0⟩ := x_sign (c := 45) hN ok s1 (Or.inr rfl)
    by_cases y : tp (sk tp (sk tp p + sl 14)) = 45
    · obtain ⟨I2, e2, s2, f2⟩ := sg1 y
      obtain ⟨M2, J2, a2, b2, g2⟩ := m_adv hN ok b1
      rw [tend_3 (srt_m y (Or.inr rfl))] at b2
      rw [if_pos y, if_neg n10, a2] at em
      simp only [Option.bind_some] at em
      obtain ⟨nx1, nx0⟩ := x_num (lo := 0) (hi := 4) hN ok s2 (by decide)
      obtain ⟨nm1, nm0⟩ := m_num (lo := 0) (hi := 4) hN ok b2
      by_cases c : srt tp (sk tp (sk tp (sk tp p + sl 14) + 1)) = 2 ∧ F_X12_in (val tp (sk tp (sk tp (sk tp p + sl 14) + 1))) 0 4 = 1
      · obtain ⟨I3, e3, s3, f3⟩ := nx1 c
        obtain ⟨M3, J3, a3, b3, g3⟩ := nm1 c
        have rg := in_rng (a := 0) (b := 4) rfl rfl c.2
        have ht := tend_sp ok (sk_sp ok s2.2.2.1).2.1
        have hk2 := sk_sp ok s2.2.2.1
        obtain ⟨T', I', J', P', Im', Jm', x1, x2, x3⟩ := b_end (J := J) hN ok (q := q) (wt := wt) (wd := wd) (cl := -(val tp (sk tp (sk tp (sk tp p + sl 14) + 1)))) h60 s3 b3 (((hD1.ft f2).op g2).ft f3 |>.op g3) hm hk ⟨hw, hd, by rw [neg_t rg]; omega, by rw [neg_t rg]; omega⟩ (by omega)
        refine ⟨T', I', J', P', Im', Jm', ?_, ?_, x3.pre ((f1.tr f2).tr f3) ((g1.tr g2).tr g3) (Nat.le_refl _)⟩
        · rw [ex]
          unfold F_X6_readClip
          rw [e2]
          simp only [Option.bind_some]
          rw [e3]
          simp only [Option.bind_some]
          rw [if_neg n10]
          exact x1
        · rw [em, a3]
          simp only [Option.bind_some]
          rw [if_neg n10]
          exact x2
      · obtain ⟨I3, e3, s3, f3⟩ := nx0 c
        obtain ⟨v, M3, a3, b3, g3⟩ := nm0 c
        obtain ⟨I4, e4, s4, f4⟩ := xR4_f (T := T) (J := J) (P := P) (kd := kd) (wt := wt) (wd := wd) (cl := -0) hN ok s3
        obtain ⟨M4, a4, b4, g4⟩ := mW4_f (N := N) (J := J2) (kd := kd) (wt := wt) (wd := wd) (cl := -v) b3
        refine ⟨T, I4, J, P, M4, J2, ?_, ?_, Out.bad (((f1.tr f2).tr f3).tr f4) (((g1.tr g2).tr g3).tr g4) s4 b4⟩
        · rw [ex]
          unfold F_X6_readClip
          rw [e2]
          simp only [Option.bind_some]
          rw [e3]
          simp only [Option.bind_some]
          rw [if_neg n10]
          exact e4
        · rw [em, a3]
          simp only [Option.bind_some]
          rw [if_neg n10]
          exact a4
    · obtain ⟨I2, e2, s2, f2⟩ := sg0 y
      rw [if_neg y, if_pos rfl] at em
      have ss : sk tp (sk tp (sk tp p + sl 14)) = sk tp (sk tp p + sl 14) := sk_sk ok s1.2.2.1
      obtain ⟨nx1, nx0⟩ := x_num (lo := 0) (hi := 4) hN ok s2 (by decide)
      obtain ⟨nm1, nm0⟩ := m_num (lo := 0) (hi := 4) hN ok b1
      rw [ss] at nx1 nx0
      by_cases c : srt tp (sk tp (sk tp p + sl 14)) = 2 ∧ F_X12_in (val tp (sk tp (sk tp p + sl 14))) 0 4 = 1
      · obtain ⟨I3, e3, s3, f3⟩ := nx1 c
        obtain ⟨M3, J3, a3, b3, g3⟩ := nm1 c
        have rg := in_rng (a := 0) (b := 4) rfl rfl c.2
        have ht := tend_sp ok hsk5.2.1
        obtain ⟨T', I', J', P', Im', Jm', x1, x2, x3⟩ := b_end (J := J) hN ok (q := q) (wt := wt) (wd := wd) (cl := val tp (sk tp (sk tp p + sl 14))) h60 s3 b3 ((hD1.ft f2).ft f3 |>.op g3) hm hk ⟨hw, hd, by omega, by omega⟩ (by omega)
        refine ⟨T', I', J', P', Im', Jm', ?_, ?_, x3.pre ((f1.tr f2).tr f3) (g1.tr g3) (Nat.le_refl _)⟩
        · rw [ex]
          unfold F_X6_readClip
          rw [e2]
          simp only [Option.bind_some]
          rw [e3]
          simp only [Option.bind_some, if_true]
          exact x1
        · rw [em, a3]
          simp only [Option.bind_some, if_true]
          exact x2
      · obtain ⟨I3, e3, s3, f3⟩ := nx0 c
        obtain ⟨v, M3, a3, b3, g3⟩ := nm0 c
        obtain ⟨I4, e4, s4, f4⟩ := xR4_f (T := T) (J := J) (P := P) (kd := kd) (wt := wt) (wd := wd) (cl := 0) hN ok s3
        obtain ⟨M4, a4, b4, g4⟩ := mW4_f (N := N) (J := J1) (kd := kd) (wt := wt) (wd := wd) (cl := v) b3
        refine ⟨T, I4, J, P, M4, J1, ?_, ?_, Out.bad (((f1.tr f2).tr f3).tr f4) ((g1.tr g3).tr g4) s4 b4⟩
        · rw [ex]
          unfold F_X6_readClip
          rw [e2]
          simp only [Option.bind_some]
          rw [e3]
          simp only [Option.bind_some, if_true]
          exact e4
        · rw [em, a3]
          simp only [Option.bind_some, if_true]
          exact a4
  · obtain ⟨I1, e1, s1, f1⟩ := n0 z
    obtain ⟨T', I', J', P', Im', Jm', x1, x2, x3⟩ := b_end (J := J) hN ok (q := q) (wt := wt) (wd := wd) (cl := 0) h60 s1 (by rw [sk_sk ok hX.2.2.1]; exact hM) (hD.ft f1) hm hk ⟨hw, hd, by decide⟩ (by omega)
    refine ⟨T', I', J', P', Im', Jm', ?_, ?_, x3.pre f1 (FOp.re _ _) (Nat.le_refl _)⟩
    · unfold xR3
      rw [e1]
      simp only [Option.bind_some, if_true]
      exact x1
    · unfold mW3
      rw [hM.2.2.1, if_neg n10, c14, w0 z, if_pos rfl]
      exact x2
theorem b_card1 (hN : 201 ≤ N) (ok : TpOK n tp) {p q m : Nat} {kd : Int32} (h60 : 60 ≤ T.1) (hX : XS n tp I p) (hM : MG n tp Im Jm (sk tp p)) (hD : DRl T I P Im m) (hm : m < 6) (hk : F_X12_in kd 0 5 = 1) (hq : q ≤ p) : ∃ T' I' J' P' Im' Jm', xR1 N T J P kd I = some (T', I', J', P') ∧ mW1 N kd Im Jm = some (Im', Jm') ∧ Out n tp q T T' I I' J J' P P' Im Im' Jm Jm' := by
  have hsk := sk_sp ok hX.2.2.1
  have c13 : (459383 : Int64) = o64 (cdN.getD 13 0) := by decide
  obtain ⟨nx1, nx0⟩ := x_num (lo := 1) (hi := 99) hN ok hX (by decide)
  obtain ⟨nm1, nm0⟩ := m_num (lo := 1) (hi := 99) hN ok hM
  unfold xR1 mW1
  by_cases c : srt tp (sk tp p) = 2 ∧ F_X12_in (val tp (sk tp p)) 1 99 = 1
  · obtain ⟨I1, e1, s1, f1⟩ := nx1 c
    obtain ⟨M1, J1, a1, b1, g1⟩ := nm1 c
    have rw1 := in_rng (a := 1) (b := 99) rfl rfl c.2
    have ht := tend_sp ok hsk.2.1
    rw [e1, a1]
    simp only [Option.bind_some]
    rw [c13]
    obtain ⟨n1, n0⟩ := x_name (k := 13) hN ok (by decide) s1
    obtain ⟨w1, w0⟩ := m_word (k := 13) hN ok (by decide) b1
    have hsk2 := sk_sp ok s1.2.2.1
    rcases Classical.em (nmA tp 13 (sk tp (tend tp (sk tp p)))) with z | z
    · obtain ⟨te, le⟩ := name_end ok (by decide) hsk2.2.1 z
      obtain ⟨I2, e2, s2, f2⟩ := n1 z
      obtain ⟨M2, J2, a2, b2, g2⟩ := w1 z
      rw [te] at b2
      have hsk3 := sk_sp ok s2.2.2.1
      have hs13 : sl 13 = 4 := by decide
      rw [e2, a2]
      simp only [Option.bind_some]
      rw [if_neg n10]
      unfold xR2
      obtain ⟨ox1, ox0⟩ := x_num (lo := 1) (hi := 9) hN ok s2 (by decide)
      obtain ⟨om1, om0⟩ := m_num (lo := 1) (hi := 9) hN ok b2
      by_cases d : srt tp (sk tp (sk tp (tend tp (sk tp p)) + sl 13)) = 2 ∧ F_X12_in (val tp (sk tp (sk tp (tend tp (sk tp p)) + sl 13))) 1 9 = 1
      · obtain ⟨I3, e3, s3, f3⟩ := ox1 d
        obtain ⟨M3, J3, a3, b3, g3⟩ := om1 d
        have rw3 := in_rng (a := 1) (b := 9) rfl rfl d.2
        have ht3 := tend_sp ok hsk3.2.1
        rw [e3, a3]
        simp only [Option.bind_some]
        obtain ⟨T', I', J', P', Im', Jm', x1, x2, x3⟩ := b_clip (J := J) hN ok (q := q) h60 s3 b3 (((((hD.ft f1).op g1).ft f2).op g2).ft f3 |>.op g3) hm hk rw1 rw3 (by omega)
        exact ⟨T', I', J', P', Im', Jm', x1, x2, x3.pre ((f1.tr f2).tr f3) ((g1.tr g2).tr g3) (Nat.le_refl _)⟩
      · obtain ⟨I3, e3, s3, f3⟩ := ox0 d
        obtain ⟨v, M3, a3, b3, g3⟩ := om0 d
        obtain ⟨I4, e4, s4, f4⟩ := xR3_f (T := T) (J := J) (P := P) (kd := kd) (wt := val tp (sk tp p)) (wd := 0) hN ok s3
        obtain ⟨M4, a4, b4, g4⟩ := mW3_f (N := N) (J := J2) (kd := kd) (wt := val tp (sk tp p)) (wd := v) b3
        rw [e3, a3]
        exact ⟨T, I4, J, P, M4, J2, e4, a4, Out.bad (((f1.tr f2).tr f3).tr f4) (((g1.tr g2).tr g3).tr g4) s4 b4⟩
    · obtain ⟨I2, e2, s2, f2⟩ := n0 z
      obtain ⟨M2, a2, b2, g2⟩ := w0 z
      obtain ⟨I3, e3, s3, f3⟩ := x_blame s2
      obtain ⟨I4, e4, s4, f4⟩ := xR2_f (T := T) (J := J) (P := P) (kd := kd) (wt := val tp (sk tp p)) hN ok s3
      obtain ⟨v, M3, a3, b3, g3⟩ := m_num_f (N := N) (J := J1) (lo := 1) (hi := 9) b2
      obtain ⟨M4, a4, b4, g4⟩ := mW3_f (N := N) (J := J1) (kd := kd) (wt := val tp (sk tp p)) (wd := v) b3
      refine ⟨T, I4, J, P, M4, J1, ?_, ?_, Out.bad (((f1.tr f2).tr f3).tr f4) (((g1.tr g2).tr g3).tr g4) s4 b4⟩
      · rw [e2]
        simp only [Option.bind_some, if_true]
        rw [e3]
        exact e4
      · rw [a2]
        simp only [Option.bind_some]
        rw [a3]
        exact a4
  · obtain ⟨I1, e1, s1, f1⟩ := nx0 c
    obtain ⟨v, M1, a1, b1, g1⟩ := nm0 c
    obtain ⟨I2, e2, s2, f2⟩ := x_name_f (k := 13) hN ok s1
    obtain ⟨I4, e4, s4, f4⟩ := xR2_f (T := T) (J := J) (P := P) (kd := kd) (wt := 0) hN ok s2
    obtain ⟨M2, a2, b2, g2⟩ := m_word_f (N := N) (J := Jm) (c := 459383) b1
    obtain ⟨v3, M3, a3, b3, g3⟩ := m_num_f (N := N) (J := Jm) (lo := 1) (hi := 9) b2
    obtain ⟨M4, a4, b4, g4⟩ := mW3_f (N := N) (J := Jm) (kd := kd) (wt := v) (wd := v3) b3
    refine ⟨T, I4, J, P, M4, Jm, ?_, ?_, Out.bad ((f1.tr f2).tr f4) (((g1.tr g2).tr g3).tr g4) s4 b4⟩
    · rw [e1]
      simp only [Option.bind_some]
      rw [e2]
      simp only [Option.bind_some, if_true]
      rw [x_blame_f ok s2]
      exact e4
    · rw [a1]
      simp only [Option.bind_some]
      rw [a2]
      simp only [Option.bind_some]
      rw [a3]
      exact a4
/-- a card, from its kind on -/
theorem b_card (hN : 201 ≤ N) (ok : TpOK n tp) {q a p m : Nat} (ha : a < 6) (hna : nmA tp (7 + a) q) (h60 : 60 ≤ T.1) (hX : XS n tp I p) (hs : sk tp p = q) (hM : MG n tp Im Jm q) (hD : DRl T I P Im m) (hpl : p = q) : ∃ T' I' J' P' Im' Jm', F_X6_readCard N T I J P = some (T', I', J', P') ∧ F_X12_wantCard N Im Jm (nI a) = some (Im', Jm') ∧ Out n tp q T T' I I' J J' P P' Im Im' Jm Jm' := by
  have h200 := ok.1
  have hm6 := hD.1.1
  have hq := hM.2.2.2.1
  have hkd : F_X12_in (nI a) 0 5 = 1 := in1 (a := 0) (b := 5) rfl rfl ⟨by rw [nI_toInt (by omega)]; omega, by rw [nI_toInt (by omega)]; omega⟩
  rw [xR_eq, mW_eq, hD.1.2.1, hD.1.2.2.1]
  simp only [letb]
  by_cases h6 : m < 6
  · have n6 : ¬ (6 : Int32) ≤ nI m := nI_ge (a := m) (b := 6) h6 (by decide)
    rw [if_neg n6, if_neg n6, up2_s, if_neg n10]
    obtain ⟨I1, e1, s1, f1⟩ := x_kindY (N := N) hN ok ha hna hq a 0 p I (by omega) hX hs N (by omega)
    have e1' : F_X6_passKind N I = some (nI a, I1) := e1
    obtain ⟨te, le⟩ := name_end ok (by omega) hq hna
    obtain ⟨M1, J1, a1, b1, g1⟩ := m_adv hN ok (up14 hM (v := 1) rfl)
    rw [te] at b1
    rw [e1', a1]
    simp only [Option.bind_some]
    rw [if_pos (nI_pos' (by omega))]
    have g1' : FOp Im M1 Jm J1 := FOp.s14.tr g1
    obtain ⟨T', I', J', P', Im', Jm', x1, x2, x3⟩ := b_card1 (J := J) hN ok (q := q) h60 s1 b1 ((hD.ft f1).op g1') h6 hkd (by omega)
    exact ⟨T', I', J', P', Im', Jm', x1, x2, x3.pre f1 g1' (Nat.le_refl _)⟩
  · have e6 : m = 6 := by omega
    subst e6
    have p6 : (6 : Int32) ≤ nI 6 := by decide
    rw [if_pos p6, if_pos p6, up2_s, if_pos rfl]
    subst hpl
    obtain ⟨I1, e1, s1, f1⟩ := x_blame hX
    have bM : MFl n tp (up2 Im 101 14 0) p := up14f hM.1 hM.2.1.1 rfl
    obtain ⟨v, M1, a1, b1, g1⟩ := m_num_f (N := N) (J := Jm) (lo := 1) (hi := 99) bM
    obtain ⟨M2, a2, b2, g2⟩ := m_word_f (N := N) (J := Jm) (c := 459383) b1
    obtain ⟨v3, M3, a3, b3, g3⟩ := m_num_f (N := N) (J := Jm) (lo := 1) (hi := 9) b2
    obtain ⟨M4, a4, b4, g4⟩ := mW3_f (N := N) (J := Jm) (kd := nI a) (wt := v) (wd := v3) b3
    refine ⟨T, I1, J, P, M4, Jm, ?_, ?_, Out.bad f1 (FOp.s14.tr (((g1.tr g2).tr g3).tr g4)) s1 b4⟩
    · rw [e1]
      rfl
    · unfold mW1
      rw [a1]
      simp only [Option.bind_some]
      rw [a2]
      simp only [Option.bind_some]
      rw [a3]
      exact a4
end
