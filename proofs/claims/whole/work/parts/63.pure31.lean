/-! THE TAPE: a card -/
section
variable {N n : Nat} {tp : Nat → Int32} {s : Nat} {T T' T'' : TM} {I I' I'' Im Im' Im'' : IM} {J J' J'' Jm Jm' Jm'' : JM} {P P' P'' : PM}
def TE (T T' : TM) : Prop := T.1 ≤ T'.1 ∧ ∀ c, isF T c = true → isF T' c = true ∧ T'.2.1 c = T.2.1 c
theorem TE.re (T : TM) : TE T T := ⟨Nat.le_refl _, fun _ h => ⟨h, rfl⟩⟩
theorem TE.tr (h : TE T T') (h2 : TE T' T'') : TE T T'' := ⟨Nat.le_trans h.1 h2.1, fun c hc => ⟨(h2.2 c (h.2 c hc).1).1, ((h2.2 c (h.2 c hc).1).2).trans (h.2 c hc).2⟩⟩
theorem TE.new {K m : Nat} : TE T (nT T K m) := ⟨Nat.le_succ _, fun _ hc => ⟨(isF_nT hc).1, (isF_nT hc).2.1⟩⟩
theorem CardR.te {c j : Nat} {kd wt wd cl : Int32} (h : CardR T I c j kd wt wd cl) (ht : TE T T') (hI : ∀ x, 124 ≤ x → x < 64 + T.1 → I' x = I x) : CardR T' I' c j kd wt wd cl := by
  obtain ⟨h1, h2, h3, h4⟩ := h.fr hI
  obtain ⟨a, b⟩ := ht.2 c h2
  exact ⟨h1, a, by rw [b]; exact h3, h4⟩
theorem fOk_te {th : Nat → Option Nat} (h : fOk T th 6 = true) (ht : TE T T') : fOk T' th 6 = true := by
  unfold fOk at h ⊢
  rw [List.all_eq_true] at h ⊢
  intro i hi
  have := h i hi
  cases hq : th i with
  | none => rfl
  | some c =>
    rw [hq] at this
    exact (ht.2 c this).1
theorem CR.te {k : Nat} {th : Nat → Option Nat} {cnt cnt' : Int32} {C : Nat → Int32} (h : CR T I th cnt cnt' C k) (ht : TE T T') (hI : ∀ x, 124 ≤ x → x < 64 + T.1 → I' x = I x) : CR T' I' th cnt cnt' C k := by
  obtain ⟨h1, h2, h3, h4, h5⟩ := h
  refine ⟨h1, h2, h3, fun j hj => ?_, fOk_te h5 ht⟩
  obtain ⟨c, e, r⟩ := h4 j hj
  exact ⟨c, e, r.te ht hI⟩
theorem WR.te {B : Nat} {th : Nat → Option Nat} {cnt z : Int32} {L H A : Nat → Int32} {pa : Option Nat} {cnt' z' : Int32} {C L' H' A' : Nat → Int32} (h : WR B T I th cnt z L H A pa cnt' z' C L' H' A') (ht : TE T T') (hI : ∀ x, 124 ≤ x → x < 64 + T.1 → I' x = I x) : WR B T' I' th cnt z L H A pa cnt' z' C L' H' A' := by
  obtain ⟨n, h1, h2⟩ := h
  exact ⟨n, h1.te ht hI, h2⟩
def FrC (T T' : TM) (I I' : IM) (J J' : JM) (P P' : PM) : Prop := TE T T' ∧ (∀ x, x < 124 → x ≠ 75 → x ≠ 77 → x ≠ 78 → x ≠ 80 → I' x = I x) ∧ (∀ x, 124 ≤ x → x < 64 + T.1 → I' x = I x) ∧ (∀ y, y ≠ 1 → I' 75 y = I 75 y) ∧ (∀ y, y ≠ 2 → y ≠ 3 → I' 80 y = I 80 y) ∧ (∀ x, x < 124 → J' x = J x) ∧ ∀ x, x < 124 → x ≠ 76 → P' x = P x
theorem FrC.re (T : TM) (I : IM) (J : JM) (P : PM) : FrC T T I I J J P P := ⟨TE.re T, fun _ _ _ _ _ _ => rfl, fun _ _ _ => rfl, fun _ _ => rfl, fun _ _ _ => rfl, fun _ _ => rfl, fun _ _ _ => rfl⟩
theorem FrC.tr (h : FrC T T' I I' J J' P P') (h2 : FrC T' T'' I' I'' J' J'' P' P'') : FrC T T'' I I'' J J'' P P'' := by
  obtain ⟨a1, a2, a3, a4, a5, a6, a7⟩ := h
  obtain ⟨b1, b2, b3, b4, b5, b6, b7⟩ := h2
  have := a1.1
  exact ⟨a1.tr b1, fun x h1 h2 h3 h4 h5 => (b2 x h1 h2 h3 h4 h5).trans (a2 x h1 h2 h3 h4 h5), fun x h1 h2 => (b3 x h1 (by omega)).trans (a3 x h1 h2), fun y h => (b4 y h).trans (a4 y h), fun y h1 h2 => (b5 y h1 h2).trans (a5 y h1 h2), fun x h => (b6 x h).trans (a6 x h), fun x h1 h2 => (b7 x h1 h2).trans (a7 x h1 h2)⟩
theorem FT.frc (h : FT I I') : FrC T T I I' J J P P := ⟨TE.re T, fun x _ _ _ _ h5 => h.1 x h5, fun x h1 _ => h.1 x (by omega), fun y _ => by rw [h.1 75 (by decide)], h.2, fun _ _ => rfl, fun _ _ _ => rfl⟩
theorem FOp.frm (h : FOp Im Im' Jm Jm') : FRm Im Im' Jm Jm' := ⟨fun x a _ _ _ => h.1 x a, fun y a b c d e _ => h.2.1 y a b c d e, h.2.2⟩
theorem FRm.re (Im : IM) (Jm : JM) : FRm Im Im Jm Jm := ⟨fun _ _ _ _ _ => rfl, fun _ _ _ _ _ _ _ => rfl, fun _ _ => rfl⟩
theorem FRm.tr (h : FRm Im Im' Jm Jm') (h2 : FRm Im' Im'' Jm' Jm'') : FRm Im Im'' Jm Jm'' := ⟨fun x a b c d => (h2.1 x a b c d).trans (h.1 x a b c d), fun y a b c d e f => (h2.2.1 y a b c d e f).trans (h.2.1 y a b c d e f), fun x a => (h2.2.2 x a).trans (h.2.2 x a)⟩
def DRl (T : TM) (I : IM) (P : PM) (Im : IM) (m : Nat) : Prop := CR T I (P 76) (I 75 1) (Im 101 15) (Im 108) m ∧ EqL (I 77) (Im 109) ∧ HR (I 78) (Im 110)
theorem DRl.ft {m : Nat} (h : DRl T I P Im m) (f : FT I I') : DRl T I' P Im m := by
  obtain ⟨a, b, c⟩ := h
  refine ⟨?_, ?_, ?_⟩
  · rw [f.1 75 (by decide)]; exact a.fr (fun x h1 _ => f.1 x (by omega))
  · rw [f.1 77 (by decide)]; exact b
  · rw [f.1 78 (by decide)]; exact c
theorem DRl.op {m : Nat} (h : DRl T I P Im m) (f : FOp Im Im' Jm Jm') : DRl T I P Im' m := by
  obtain ⟨a, b, c⟩ := h
  refine ⟨?_, ?_, ?_⟩
  · rw [f.2.1 15 (by decide) (by decide) (by decide) (by decide) (by decide), f.1 108 (by decide)]; exact a
  · rw [f.1 109 (by decide)]; exact b
  · rw [f.1 110 (by decide)]; exact c
def Fin (n : Nat) (tp : Nat → Int32) (q : Nat) (T' : TM) (I' : IM) (P' : PM) (Im' : IM) (Jm' : JM) : Prop := (∃ p m, XS n tp I' p ∧ q < p ∧ MG n tp Im' Jm' (sk tp p) ∧ DRl T' I' P' Im' m) ∨ ∃ f, XFl n tp I' f ∧ MFl n tp Im' f
def Out (n : Nat) (tp : Nat → Int32) (q : Nat) (T T' : TM) (I I' : IM) (J J' : JM) (P P' : PM) (Im Im' : IM) (Jm Jm' : JM) : Prop := FrC T T' I I' J J' P P' ∧ FRm Im Im' Jm Jm' ∧ Fin n tp q T' I' P' Im' Jm'
def xR4 (N : Nat) (T : TM) (J : JM) (P : PM) (kd wt wd cl : Int32) (I : IM) : Option (TM × IM × JM × PM) := ((F_X6_passEnd N I).bind (fun x31 => (if (F_X6_isGood x31) = 0 then (some (T, x31, J, P)) else ((F_X10_addCard T x31 J P 75 kd wt wd cl).bind (fun x34 => (some (x34.2.1, x34.2.2.1, x34.2.2.2.1, x34.2.2.2.2)))))))
def xR3 (N : Nat) (T : TM) (J : JM) (P : PM) (kd wt wd : Int32) (I : IM) : Option (TM × IM × JM × PM) := ((F_X6_passName N I 14).bind (fun x28 => (if x28.1 = 0 then xR4 N T J P kd wt wd 0 x28.2 else ((F_X6_readClip N x28.2).bind (fun x36 => xR4 N T J P kd wt wd x36.1 x36.2)))))
def xR2 (N : Nat) (T : TM) (J : JM) (P : PM) (kd wt : Int32) (I : IM) : Option (TM × IM × JM × PM) := ((F_X6_readNumber N I 1 9).bind (fun x27 => xR3 N T J P kd wt x27.1 x27.2))
def xR1 (N : Nat) (T : TM) (J : JM) (P : PM) (kd : Int32) (I : IM) : Option (TM × IM × JM × PM) := ((F_X6_readNumber N I 1 99).bind (fun x7 => ((F_X6_passName N x7.2 13).bind (fun x8 => (if x8.1 = 0 then ((F_X6_blameHere x8.2).bind (fun x26 => xR2 N T J P kd x7.1 x26)) else xR2 N T J P kd x7.1 x8.2)))))
theorem xR_eq : F_X6_readCard N T I J P = (if 6 ≤ (I 75 1) then ((F_X6_blameHere I).bind (fun x4 => (some (T, x4, J, P)))) else ((F_X6_passKind N I).bind (fun x5 => (if 0 ≤ x5.1 then xR1 N T J P x5.1 x5.2 else ((F_X6_blameHere x5.2).bind (fun x42 => (some (T, x42, J, P)))))))) := rfl
def mWr (kd wt wd cl : Int32) (I : IM) (J : JM) : Option (IM × JM) := (if inb (4 * (I 101 15)) 24 = true then (letb (up2 I 108 (4 * (I 101 15)).toNatClampNeg kd) (fun I15 : IM => (if inb ((4 * (I15 101 15)) + 1) 24 = true then (letb (up2 I15 108 ((4 * (I15 101 15)) + 1).toNatClampNeg wt) (fun I17 : IM => (if inb ((4 * (I17 101 15)) + 2) 24 = true then (letb (up2 I17 108 ((4 * (I17 101 15)) + 2).toNatClampNeg wd) (fun I19 : IM => (if inb ((4 * (I19 101 15)) + 3) 24 = true then (letb (up2 I19 108 ((4 * (I19 101 15)) + 3).toNatClampNeg cl) (fun I21 : IM => (letb (up2 I21 101 15 ((I21 101 15) + 1)) (fun I22 : IM => (some (I22, J)))))) else none))) else none))) else none))) else none)
def mW4 (N : Nat) (kd wt wd cl : Int32) (I : IM) (J : JM) : Option (IM × JM) := ((F_X12_wantEnd N I J).bind (fun x11 => (if (x11.1 101 14) = 0 then (some (x11.1, x11.2)) else mWr kd wt wd cl x11.1 x11.2)))
def mW3 (N : Nat) (kd wt wd : Int32) (I : IM) (J : JM) : Option (IM × JM) := (if (I 101 14) = 0 then mW4 N kd wt wd 0 I J else (if (F_X12_isWord I J 68056) = 0 then mW4 N kd wt wd 0 I J else ((F_X12_advance N I J).bind (fun x37 => (letb (F_X12_isMark x37.1 45) (fun y38 : Int32 => (if y38 = 0 then ((F_X12_wantNumber N x37.1 x37.2 0 4).bind (fun x41 => (letb (if y38 = 0 then x41.1 else (-x41.1)) (fun y43 : Int32 => mW4 N kd wt wd y43 x41.2.1 x41.2.2)))) else ((F_X12_advance N x37.1 x37.2).bind (fun x56 => ((F_X12_wantNumber N x56.1 x56.2 0 4).bind (fun x57 => (letb (if y38 = 0 then x57.1 else (-x57.1)) (fun y59 : Int32 => mW4 N kd wt wd y59 x57.2.1 x57.2.2)))))))))))))
def mW1 (N : Nat) (kd : Int32) (I : IM) (J : JM) : Option (IM × JM) := ((F_X12_wantNumber N I J 1 99).bind (fun x6 => ((F_X12_wantWord N x6.2.1 x6.2.2 459383).bind (fun x7 => ((F_X12_wantNumber N x7.1 x7.2 1 9).bind (fun x8 => mW3 N kd x6.1 x8.1 x8.2.1 x8.2.2))))))
theorem mW_eq {kd : Int32} : F_X12_wantCard N I J kd = (letb (if 6 ≤ (I 101 15) then 0 else 1) (fun y2 : Int32 => (letb (up2 I 101 14 y2) (fun I3 : IM => (if (I3 101 14) = 0 then mW1 N kd I3 J else ((F_X12_advance N I3 J).bind (fun x72 => mW1 N kd x72.1 x72.2))))))) := rfl
/-! behind a fault -/
theorem xR4_f (hN : 201 ≤ N) (ok : TpOK n tp) {f : Nat} {kd wt wd cl : Int32} (h : XFl n tp I f) : ∃ I', xR4 N T J P kd wt wd cl I = some (T, I', J, P) ∧ XFl n tp I' f ∧ FT I I' := by
  obtain ⟨I1, e1, s1, f1⟩ := x_end_f hN ok h
  refine ⟨I1, ?_, s1, f1⟩
  unfold xR4
  rw [e1]
  simp only [Option.bind_some]
  rw [s1.bad ok, if_pos rfl]
theorem xR3_f (hN : 201 ≤ N) (ok : TpOK n tp) {f : Nat} {kd wt wd : Int32} (h : XFl n tp I f) : ∃ I', xR3 N T J P kd wt wd I = some (T, I', J, P) ∧ XFl n tp I' f ∧ FT I I' := by
  obtain ⟨I1, e1, s1, f1⟩ := x_name_f (k := 14) hN ok h
  obtain ⟨I2, e2, s2, f2⟩ := xR4_f (T := T) (J := J) (P := P) (kd := kd) (wt := wt) (wd := wd) (cl := 0) hN ok s1
  refine ⟨I2, ?_, s2, f1.tr f2⟩
  unfold xR3
  rw [e1]
  simp only [Option.bind_some, if_true]
  exact e2
theorem xR2_f (hN : 201 ≤ N) (ok : TpOK n tp) {f : Nat} {kd wt : Int32} (h : XFl n tp I f) : ∃ I', xR2 N T J P kd wt I = some (T, I', J, P) ∧ XFl n tp I' f ∧ FT I I' := by
  obtain ⟨I1, e1, s1, f1⟩ := x_num_f (lo := 1) (hi := 9) hN ok h
  obtain ⟨I2, e2, s2, f2⟩ := xR3_f (T := T) (J := J) (P := P) (kd := kd) (wt := wt) (wd := 0) hN ok s1
  refine ⟨I2, ?_, s2, f1.tr f2⟩
  unfold xR2
  rw [e1]
  exact e2
theorem mW4_f {f : Nat} {kd wt wd cl : Int32} (h : MFl n tp I f) : ∃ I', mW4 N kd wt wd cl I J = some (I', J) ∧ MFl n tp I' f ∧ FOp I I' J J := by
  obtain ⟨I1, e1, s1, f1⟩ := m_end_f (N := N) (J := J) h
  refine ⟨I1, ?_, s1, f1⟩
  unfold mW4
  rw [e1]
  simp only [Option.bind_some]
  rw [s1.2.1, if_pos rfl]
theorem mW3_f {f : Nat} {kd wt wd : Int32} (h : MFl n tp I f) : ∃ I', mW3 N kd wt wd I J = some (I', J) ∧ MFl n tp I' f ∧ FOp I I' J J := by
  obtain ⟨I1, e1, s1, f1⟩ := mW4_f (N := N) (J := J) (kd := kd) (wt := wt) (wd := wd) (cl := 0) h
  refine ⟨I1, ?_, s1, f1⟩
  unfold mW3
  rw [h.2.1, if_pos rfl]
  exact e1
theorem m_wr {m : Nat} {kd wt wd cl : Int32} (hm : m < 6) (h : I 101 15 = nI m) : mWr kd wt wd cl I J = some (up2 (mk4m I 108 m kd wt wd cl) 101 15 (nI (m + 1)), J) := by
  obtain ⟨⟨x0, y0⟩, ⟨x1, y1⟩, ⟨x2, y2⟩, x3, y3⟩ := c4_idx m hm
  unfold mWr
  rw [h, if_pos x0, y0]
  simp only [letb]
  rw [up2_oth _ _ _ (show 101 ≠ 108 by decide), h, if_pos x1, y1, up2_oth _ _ _ (show 101 ≠ 108 by decide), up2_oth _ _ _ (show 101 ≠ 108 by decide), h, if_pos x2, y2, up2_oth _ _ _ (show 101 ≠ 108 by decide), up2_oth _ _ _ (show 101 ≠ 108 by decide), up2_oth _ _ _ (show 101 ≠ 108 by decide), h, if_pos x3, y3, up2_oth _ _ _ (show 101 ≠ 108 by decide), up2_oth _ _ _ (show 101 ≠ 108 by decide), up2_oth _ _ _ (show 101 ≠ 108 by decide), up2_oth _ _ _ (show 101 ≠ 108 by decide), h, nI_1]
  rfl
/-- the end of a card -/
theorem b_end (hN : 201 ≤ N) (ok : TpOK n tp) {p q m : Nat} {kd wt wd cl : Int32} (h60 : 60 ≤ T.1) (hX : XS n tp I p) (hM : MG n tp Im Jm (sk tp p)) (hD : DRl T I P Im m) (hm : m < 6) (hk : F_X12_in kd 0 5 = 1) (hr : (1 ≤ wt.toInt ∧ wt.toInt ≤ 99) ∧ (1 ≤ wd.toInt ∧ wd.toInt ≤ 9) ∧ -4 ≤ cl.toInt ∧ cl.toInt ≤ 4) (hq : q ≤ p) : ∃ T' I' J' P' Im' Jm', xR4 N T J P kd wt wd cl I = some (T', I', J', P') ∧ mW4 N kd wt wd cl Im Jm = some (Im', Jm') ∧ Out n tp q T T' I I' J J' P P' Im Im' Jm Jm' := by
  obtain ⟨xe1, xe2⟩ := x_end hN ok hX
  obtain ⟨me1, me2⟩ := m_end hN ok hM
  have hsk := sk_sp ok hX.2.2.1
  by_cases z : tp (sk tp p) = 59
  · obtain ⟨I1, e1, s1, f1⟩ := xe1 z
    obtain ⟨M1, J1, e2, s2, f2⟩ := me1 z
    have hD2 := (hD.ft f1).op f2
    obtain ⟨hC, hL, hH⟩ := hD2
    obtain ⟨K, k1, k2, e3⟩ := x_add (J := J) (P := P) (I := I1) (w := 75) h60 (by decide) hm hC.2.1 (p2 := wt) (p3 := wd) (p4 := cl) hk
    generalize hI2 : up2 (mk4 (nI0 T I1) (64 + T.1) (nI m) wt wd cl) 75 1 (nI (m + 1)) = I2 at e3
    have i2 : (∀ x, x ≠ 64 + T.1 → x ≠ 75 → I2 x = I1 x) ∧ (∀ y, y ≠ 1 → I2 75 y = I1 75 y) ∧ I2 75 1 = nI (m + 1) ∧ I2 (64 + T.1) 0 = nI m ∧ I2 (64 + T.1) 1 = wt ∧ I2 (64 + T.1) 2 = wd ∧ I2 (64 + T.1) 3 = cl := by
      subst hI2
      have hx : ∀ x, x ≠ 64 + T.1 → nI0 T I1 x = I1 x := fun x h => va_up_ne _ _ h
      refine ⟨fun x a b => by rw [up2_oth _ _ _ b, mk4_oth a, hx x a], fun y hy => by rw [up2_n _ _ (by omega), mk4_oth (by omega), hx _ (by omega)], up2_s _ _ _ _, ?_⟩
      rw [up2_oth _ _ _ (show 64 + T.1 ≠ 75 by omega)]
      exact mk4_c
    obtain ⟨a1, a2, a3, a4⟩ := i2
    refine ⟨nT T K 0, I2, nJ0 T J, up2 (nP0 T P) (75 + 1) m (some (64 + T.1)), up2 (mk4m M1 108 m kd wt wd cl) 101 15 (nI (m + 1)), J1, ?_, ?_, ?_, ?_, Or.inl ⟨sk tp p + 1, m + 1, ?_, by omega, ?_, ?_⟩⟩
    · unfold xR4
      rw [e1]
      simp only [Option.bind_some]
      rw [s1.good, if_neg n10, e3]
      rfl
    · unfold mW4
      rw [e2]
      simp only [Option.bind_some]
      rw [s2.2.2.1, if_neg n10]
      exact m_wr hm hC.2.2.1
    · have hJ : ∀ x, x < 124 → nJ0 T J x = J x := fun x hx => va_up_ne _ _ (by omega)
      have hP : ∀ x, x < 124 → nP0 T P x = P x := fun x hx => va_up_ne _ _ (by omega)
      refine ⟨TE.new, fun x h1 h2 h3 h4 h5 => ?_, fun x h1 h2 => ?_, fun y hy => ?_, fun y h1 h2 => ?_, hJ, fun x h1 h2 => ?_⟩
      · rw [a1 x (by omega) h2, f1.1 x h5]
      · rw [a1 x (by omega) (by omega), f1.1 x (by omega)]
      · rw [a2 y hy, f1.1 75 (by decide)]
      · rw [a1 80 (by omega) (by decide), f1.2 y h1 h2]
      · rw [up2_oth _ _ _ (by omega), hP x h1]
    · refine ⟨fun x b1 b2 _ _ => ?_, fun y b1 b2 b3 b4 b5 b6 => ?_, f2.2.2⟩
      · rw [up2_oth _ _ _ b1, mk4m_oth b2, f2.1 x b1]
      · rw [up2_n _ _ (by omega), mk4m_oth (by decide), f2.2.1 y b1 b2 b3 b4 b5]
    · obtain ⟨b1, b2, b3, b4⟩ := s1
      refine ⟨⟨?_, fun j hj => ?_⟩, ?_, b3, ?_⟩
      · rw [a1 80 (by omega) (by decide)]; exact b1.1
      · rw [a1 81 (by omega) (by decide)]; exact b1.2 j hj
      · rw [a1 80 (by omega) (by decide)]; exact b2
      · rw [a1 80 (by omega) (by decide)]; exact b4
    · obtain ⟨b1, ⟨c1, c2, c3, c4, c5⟩, b3, b4⟩ := s2
      have y : ∀ i, i ≠ 15 → up2 (mk4m M1 108 m kd wt wd cl) 101 15 (nI (m + 1)) 101 i = M1 101 i := fun i hi => by rw [up2_n _ _ (by omega), mk4m_oth (by decide)]
      refine ⟨⟨?_, fun j hj => ?_⟩, ⟨?_, ?_, ?_, c4, ?_⟩, ?_, b4⟩
      · rw [y 8 (by decide)]; exact b1.1
      · rw [up2_oth _ _ _ (by decide), mk4m_oth (by decide)]; exact b1.2 j hj
      · rw [y 10 (by decide)]; exact c1
      · rw [y 9 (by decide)]; exact c2
      · rw [y 11 (by decide)]; exact c3
      · rw [y 13 (by decide)]; exact c5
      · rw [y 14 (by decide)]; exact b3
    · have z108 : up2 (mk4m M1 108 m kd wt wd cl) 101 15 (nI (m + 1)) 108 = mk4m M1 108 m kd wt wd cl 108 := up2_oth _ _ _ (by decide)
      refine ⟨?_, ?_, ?_⟩
      · rw [a3, up2_s]
        refine CR_add hC hm h60 k1 k2 (fun x b c => a1 x (by omega) (by omega)) a4 hr (fun j hj => ?_) (up2_s _ _ _ _) (fun i hi => ?_) ?_
        · rw [up2_n _ _ (by omega)]
          unfold nP0
          rw [va_up_ne _ _ (by omega)]
        · rw [z108, mk4m_lo hi]
        · rw [z108]; exact mk4m_at
      · rw [a1 77 (by omega) (by decide), up2_oth _ _ _ (by decide), mk4m_oth (by decide)]; exact hL
      · rw [a1 78 (by omega) (by decide), up2_oth _ _ _ (by decide), mk4m_oth (by decide)]; exact hH
  · obtain ⟨I1, e1, s1, f1⟩ := xe2 z
    obtain ⟨M1, e2, s2, f2⟩ := me2 z
    refine ⟨T, I1, J, P, M1, Jm, ?_, ?_, f1.frc, f2.frm, Or.inr ⟨sk tp p, s1, s2⟩⟩
    · unfold xR4
      rw [e1]
      simp only [Option.bind_some]
      rw [s1.bad ok, if_pos rfl]
    · unfold mW4
      rw [e2]
      simp only [Option.bind_some]
      rw [s2.2.1, if_pos rfl]
end
