/-! cards -/
section
variable {N n : Nat} {tp : Nat → Int32} {s : Nat} {T T' : TM} {I I' I1 Im Im' : IM} {J J' Jm Jm' : JM} {P P' : PM}
theorem rel_mk (r : Rel s T I J P) (ht : TE T T') (hc : ∀ x, 124 ≤ x → x < 64 + T.1 → I' x = I x) (hI : ∀ x, x ∈ [105, 70, 72, 73, 74, 122, 93, 95, 97, 99, 115, 116, 85, 86, 87, 118, 119, 120, 82, 83, 121] → I' x = I x) (h64 : I' 64 2 = I 64 2) (h50 : I' 101 50 = I 101 50) (h48 : I' 101 48 = I 101 48) (hP : ∀ x, x ∈ [84, 71, 74] → P' x = P x) (hJ : ∀ x, x ∈ [94, 96, 98, 100, 117] → J' x = J x) (hnow : qNow s T' I' P') (htape : qTape I') (hrows : qRows I') : Rel s T' I' J' P' := by
  have h60 := r.t60
  refine ⟨Nat.le_trans h60 ht.1, by rw [hI 105 (by decide)]; exact r.sin, ?_, hnow, ?_, htape, hrows, ?_, ?_, ?_⟩
  · unfold qShp; rw [hP 84 (by decide)]; exact r.shp
  · unfold qKept
    rw [h64, h50, hI 70 (by decide), hI 72 (by decide), hI 73 (by decide), hI 74 (by decide), hI 122 (by decide), hP 71 (by decide), hP 74 (by decide)]
    rcases r.kept with h | ⟨h1, h2, h3⟩
    · exact Or.inl h
    · exact Or.inr ⟨h1, h2, h3.te ht hc⟩
  · intro q hq
    rw [hI 115 (by decide), hI 116 (by decide), hJ 117 (by decide)]
    have : q = 0 ∨ q = 1 ∨ q = 2 ∨ q = 3 := by omega
    rcases this with rfl | rfl | rfl | rfl
    · rw [hI 93 (by decide), hJ 94 (by decide)]; exact r.sh 0 hq
    · rw [hI 95 (by decide), hJ 96 (by decide)]; exact r.sh 1 hq
    · rw [hI 97 (by decide), hJ 98 (by decide)]; exact r.sh 2 hq
    · rw [hI 99 (by decide), hJ 100 (by decide)]; exact r.sh 3 hq
  · unfold qShf; rw [hI 85 (by decide), hI 86 (by decide), hI 87 (by decide), hI 118 (by decide), hI 119 (by decide), hI 120 (by decide)]; exact r.shf
  · unfold qTr; rw [hI 82 (by decide), hI 83 (by decide), h48, hI 121 (by decide)]; exact r.tr
theorem q_cards (hN : 1000 ≤ N) (r : Rel s T I J P) : ∃ v T1 I1 J1 P1 I2 J2, F_X11_cards N T I J P = some (v, T1, I1, J1, P1) ∧ F_X12_cards N I1 J1 = some (v, I2, J2) ∧ Rel s T1 I2 J2 P1 := by
  have h60 := r.t60
  obtain ⟨nn, hC, hz, hL, hH, hA⟩ := id r.now
  obtain ⟨k, hk, t1, t2, t3⟩ := r.tape
  have ok : TpOK k (fun j => if j < k then I 107 j else -1) := by
    refine ⟨hk, fun j hj => ?_, fun j hj => if_neg (by omega)⟩
    show 0 ≤ (if j < k then I 107 j else -1).toInt ∧ (if j < k then I 107 j else -1).toInt ≤ 255
    rw [if_pos hj]
    exact ⟨(t3 j hj).1, (t3 j hj).2.1⟩
  have htpj : ∀ j, j < k → (fun j => if j < k then I 107 j else -1) j = I 107 j := fun j hj => if_pos hj
  generalize (fun j => if j < k then I 107 j else -1) = tp at ok htpj
  obtain ⟨Ic, Pc, ec, c1, c2, c3, c4, c5, c6, c7, c8, c9⟩ := x_copyW (I := I) (w := 75) (v := 65) (by omega) hC.2.2.2.2
  generalize hI2 : up2 (up2 (up2 Ic 75 1 0) 80 2 0) 80 3 (-1) = I2
  have i2 : (∀ x, x ≠ 75 → x ≠ 80 → I2 x = Ic x) ∧ (∀ y, y ≠ 1 → I2 75 y = Ic 75 y) ∧ I2 75 1 = nI 0 ∧ (∀ y, y ≠ 2 → y ≠ 3 → I2 80 y = Ic 80 y) ∧ I2 80 2 = nI 0 ∧ I2 80 3 = -1 := by
    subst hI2
    refine ⟨fun x a b => by rw [up2_oth _ _ _ b, up2_oth _ _ _ b, up2_oth _ _ _ a], fun y a => by rw [up2_oth _ _ _ (by decide), up2_oth _ _ _ (by decide), up2_n _ _ (by omega)], rfl, fun y a b => by rw [up2_n _ _ (by omega), up2_n _ _ (by omega), up2_oth _ _ _ (by decide)], rfl, rfl⟩
  obtain ⟨d1, d2, d3, d4, d5, d6⟩ := i2
  have hXS : XS k tp I2 0 := by
    refine ⟨⟨?_, fun j hj => ?_⟩, d5, by omega, d6⟩
    · rw [d4 1 (by decide) (by decide), c8 80 (by decide) (by decide) (by decide) (by decide)]; exact t1
    · rw [d1 81 (by decide) (by decide), c8 81 (by decide) (by decide) (by decide) (by decide), htpj j hj]; exact t3 j hj
  obtain ⟨I3, e3, s3, f3⟩ := x_skip (N := N) (by omega) ok hXS
  have hfr3 : ∀ x, x ≠ 75 → x ≠ 77 → x ≠ 78 → x ≠ 79 → x ≠ 80 → I3 x = I x := fun x a b c d e => by rw [f3.1 x e, d1 x a e, c8 x a b c d]
  have hcl : ∀ x, 124 ≤ x → x < 64 + T.1 → I3 x = I x := fun x a _ => hfr3 x (by omega) (by omega) (by omega) (by omega) (by omega)
  -- the reading, beside the reference from any memory that has its cells
  have loop : ∀ (Ix : IM) (Jx : JM), Ix 101 8 = nI k → Ix 107 = I 107 → Ix 103 = I 103 → Ix 104 = I 104 → ∃ fl T' I' J' P' Im' Jm' g', G_X6_readInto_16 N N 0 T I3 J (up2 Pc 79 0 none) = some (fl, T', I', J', P') ∧ F_X12_cards N Ix Jx = G_X12_cards_70 N (g' + 1) Im' Jm' ∧ FrC T T' I3 I' J J' (up2 Pc 79 0 none) P' ∧ FRm Ix Im' Jx Jm' ∧ ((fl = -1 ∧ Im' 101 14 = 1 ∧ Im' 101 9 = 0 ∧ ∃ m', DRl T' I' P' Im' m') ∨ ∃ f0, fl = nI f0 ∧ f0 ≤ k ∧ MFl k tp Im' f0) := by
    intro Ix Jx x1 x2 x3 x4
    obtain ⟨M0, J0', e0, m0, m1, m2, m3, m4⟩ := m_start (N := N) (I := Ix) (J := Jx) (by omega) ok ⟨x1, fun j hj => by rw [x2, htpj j hj]⟩
    have hD : DRl T I3 (up2 Pc 79 0 none) M0 0 := by
      refine ⟨⟨by omega, ?_, m1, fun j hj => by omega, ?_⟩, fun j hj => ?_, fun j hj => ?_, ?_⟩
      · rw [f3.1 75 (by decide)]; exact d3
      · rw [up2_oth _ _ _ (by decide)]; exact fOk_cg hC.2.2.2.2 c7
      · rw [f3.1 77 (by decide), d1 77 (by decide) (by decide), c3 j hj, m2 j hj, x3]; exact hL j hj
      · rw [f3.1 78 (by decide), d1 78 (by decide) (by decide), c4 j hj, m3 j hj, x4]; exact hH.1 j hj
      · rw [f3.1 78 (by decide), d1 78 (by decide) (by decide), c4 0 (by decide), c4 1 (by decide), c4 2 (by decide), c4 3 (by decide), c4 4 (by decide)]; exact hH.2
    obtain ⟨fl, T', I', J', P', Im', Jm', g', y1, y2, y3, y4, y5⟩ := b_loop (N := N) (by omega) ok 200 (sk tp 0) 0 0 T I3 J (up2 Pc 79 0 none) M0 J0' (by omega) s3 m0 hD h60 (by omega) N N (by omega) (by omega)
    exact ⟨fl, T', I', J', P', Im', Jm', g', y1, by rw [e0]; exact y2, y3, m4.tr y4, y5⟩
  have t2' : I 101 8 = nI k := t2
  obtain ⟨fl, T', I', J', P', Ma, Ja, ga, y1, -, y3, -, y5⟩ := loop I J t2' rfl rfl rfl
  obtain ⟨q1, q2, q3, q4, q5, q6, q7⟩ := y3
  have ex : F_X11_cards N T I J P = (if fl = (-1) then ((F_X10_copyFrom T' (up2 I' 80 1 0) P' 65 75).bind (fun x7 => (letb (up2 x7.1 64 11 0) (fun I8 : IM => (some ((I8 65 1), T', I8, J', x7.2)))))) else (some (((-100) - fl), T', up2 I' 80 1 0, J', P'))) := by
    unfold F_X11_cards
    rw [ec]
    simp only [Option.bind_some]
    have e2 : F_X10_clearCards Ic Pc 75 = some (up2 Ic 75 1 0, up2 Pc 79 0 none) := rfl
    rw [e2]
    simp only [Option.bind_some]
    unfold F_X6_readInto
    simp only [letb]
    rw [hI2, e3]
    simp only [Option.bind_some]
    rw [y1]
    rfl
  have hcells : ∀ x, 124 ≤ x → x < 64 + T.1 → I' x = I x := fun x a b => by rw [q3 x a b, hcl x a b]
  have hrest : ∀ x, x < 124 → x ≠ 75 → x ≠ 77 → x ≠ 78 → x ≠ 79 → x ≠ 80 → I' x = I x := fun x a b c d e f => by rw [q2 x a b c d f, hfr3 x b c d e f]
  have hPr : ∀ x, x < 124 → x ≠ 76 → x ≠ 79 → P' x = P x := fun x a b c => by rw [q7 x a b, up2_oth _ _ _ c, c9 x b c]
  rcases y5 with ⟨hfl, -, -, m', hD⟩ | ⟨f0, hfl, hf0, -⟩
  · -- all read
    rw [if_pos hfl] at ex
    obtain ⟨I7, P7, e7, b1, b2, b3, b4, b5, b6, b7, b8, b9⟩ := x_copyW (T := T') (I := up2 I' 80 1 0) (P := P') (w := 65) (v := 75) (by omega) hD.1.2.2.2.2
    rw [e7] at ex
    simp only [Option.bind_some, letb] at ex
    have z7 : ∀ x, x ≠ 65 → x ≠ 67 → x ≠ 68 → x ≠ 69 → x ≠ 80 → I7 x = I' x := fun x a b c d e => by rw [b8 x a b c d, up2_oth _ _ _ e]
    have z8 : ∀ x, x ≠ 64 → x ≠ 65 → x ≠ 67 → x ≠ 68 → x ≠ 69 → x ≠ 80 → up2 I7 64 11 0 x = I' x := fun x a b c d e f => by rw [up2_oth _ _ _ a, z7 x b c d e f]
    have z9 : ∀ x, x < 124 → x ≠ 64 → x ≠ 65 → x ≠ 67 → x ≠ 68 → x ≠ 69 → x ≠ 75 → x ≠ 77 → x ≠ 78 → x ≠ 79 → x ≠ 80 → up2 I7 64 11 0 x = I x := fun x h0 a b c d e f g h i j => by rw [z8 x a b c d e j, hrest x h0 f g h i j]
    obtain ⟨fl2, T2, I2', J2, P2, Mb, Jb, gb, w1, w2, w3, w4, w5⟩ := loop (up2 I7 64 11 0) J' (by rw [z9 101 (by decide) (by decide) (by decide) (by decide) (by decide) (by decide) (by decide) (by decide) (by decide) (by decide) (by decide)]; exact t2') (z9 107 (by decide) (by decide) (by decide) (by decide) (by decide) (by decide) (by decide) (by decide) (by decide) (by decide) (by decide)) (z9 103 (by decide) (by decide) (by decide) (by decide) (by decide) (by decide) (by decide) (by decide) (by decide) (by decide) (by decide)) (z9 104 (by decide) (by decide) (by decide) (by decide) (by decide) (by decide) (by decide) (by decide) (by decide) (by decide) (by decide))
    rw [y1] at w1
    obtain ⟨rfl, rfl, rfl, rfl, rfl⟩ : fl = fl2 ∧ T' = T2 ∧ I' = I2' ∧ J' = J2 ∧ P' = P2 := by
      have h := Option.some.inj w1
      simp only [Prod.mk.injEq] at h
      exact h
    rcases w5 with ⟨-, v1, v2, mm, hDD⟩ | ⟨f0, hf, hf0, -⟩
    · obtain ⟨I9, e9, g1, g2, g3, g4, g5, g6, g7, g8, g9⟩ := m_fin (N := N) (J := Jb) (g := gb) (by omega) v1 v2
      rw [e9] at w2
      obtain ⟨hCd, hLd, hHd⟩ := hDD
      have e65 : up2 I7 64 11 0 65 1 = Mb 101 15 := by
        rw [up2_oth _ _ _ (by decide), b1, up2_oth _ _ _ (by decide), hCd.2.1, hCd.2.2.1]
      refine ⟨up2 I7 64 11 0 65 1, T', up2 I7 64 11 0, J', P7, I9, Jb, ex, by rw [w2, e65], ?_⟩
      have k0 : ∀ x, x ≠ 101 → x ≠ 102 → x ≠ 103 → x ≠ 104 → x ≠ 106 → x ≠ 108 → x ≠ 109 → x ≠ 110 → I9 x = up2 I7 64 11 0 x := fun x a b c d e f g h => by rw [g1 x a b c d e, w4.1 x a f g h]
      have k1 : ∀ y, y ≠ 9 → y ≠ 10 → y ≠ 11 → y ≠ 13 → y ≠ 14 → y ≠ 15 → y ≠ 0 → y ≠ 8 → y ≠ 36 → I9 101 y = I 101 y := fun y a b c d e f g h i => by
        rw [g2 y g h i, w4.2.1 y a b c d e f, z9 101 (by decide) (by decide) (by decide) (by decide) (by decide) (by decide) (by decide) (by decide) (by decide) (by decide) (by decide)]
      have kc : ∀ x, 124 ≤ x → x < 64 + T.1 → I9 x = I x := fun x a b => by
        rw [k0 x (by omega) (by omega) (by omega) (by omega) (by omega) (by omega) (by omega) (by omega), z8 x (by omega) (by omega) (by omega) (by omega) (by omega) (by omega), hcells x a b]
      have kc' : ∀ x, 124 ≤ x → x < 64 + T'.1 → I9 x = I' x := fun x a b => by
        rw [k0 x (by omega) (by omega) (by omega) (by omega) (by omega) (by omega) (by omega) (by omega), z8 x (by omega) (by omega) (by omega) (by omega) (by omega) (by omega)]
      refine rel_mk r q1 kc (fun x hx => ?_) ?_ (k1 50 (by decide) (by decide) (by decide) (by decide) (by decide) (by decide) (by decide) (by decide) (by decide)) (k1 48 (by decide) (by decide) (by decide) (by decide) (by decide) (by decide) (by decide) (by decide) (by decide)) (fun x hx => ?_) (fun x hx => ?_) ?_ ?_ ?_
      · simp only [List.mem_cons, List.not_mem_nil, or_false] at hx
        rw [k0 x (by omega) (by omega) (by omega) (by omega) (by omega) (by omega) (by omega) (by omega), z9 x (by omega) (by omega) (by omega) (by omega) (by omega) (by omega) (by omega) (by omega) (by omega) (by omega) (by omega)]
      · rw [k0 64 (by decide) (by decide) (by decide) (by decide) (by decide) (by decide) (by decide) (by decide), up2_n _ _ (by omega), z7 64 (by decide) (by decide) (by decide) (by decide) (by decide), hrest 64 (by decide) (by decide) (by decide) (by decide) (by decide) (by decide)]
      · simp only [List.mem_cons, List.not_mem_nil, or_false] at hx
        rw [b9 x (by omega) (by omega), hPr x (by omega) (by omega) (by omega)]
      · simp only [List.mem_cons, List.not_mem_nil, or_false] at hx
        rw [w4.2.2 x (by omega), q6 x (by omega)]
      · have hW : WR (400 * s) T' I9 (P' 76) (I' 75 1) (I 65 5) (I' 77) (I' 78) (I9 69) none (Mb 101 15) (I 101 5) (Mb 108) (Mb 109) (Mb 110) (I9 106) := ⟨mm, hCd.fr kc', hz, hLd, hHd, Or.inl ⟨rfl, g6⟩⟩
        have r65 : ∀ y, I9 65 y = I7 65 y := fun y => by rw [k0 65 (by decide) (by decide) (by decide) (by decide) (by decide) (by decide) (by decide) (by decide), up2_oth _ _ _ (by decide)]
        have r67 : ∀ y, I9 67 y = I7 67 y := fun y => by rw [k0 67 (by decide) (by decide) (by decide) (by decide) (by decide) (by decide) (by decide) (by decide), up2_oth _ _ _ (by decide)]
        have r68 : ∀ y, I9 68 y = I7 68 y := fun y => by rw [k0 68 (by decide) (by decide) (by decide) (by decide) (by decide) (by decide) (by decide) (by decide), up2_oth _ _ _ (by decide)]
        refine WR.cg hW b7 ?_ ?_ (fun j hj => ?_) (fun j hj => ?_) (fun _ _ _ => rfl) ?_ g3 ?_ g7 g8 g9 (fun _ _ => rfl)
        · rw [r65, b1, up2_oth _ _ _ (by decide)]
        · rw [r65, b2, up2_oth _ _ _ (by decide), q4 5 (by decide), f3.1 75 (by decide), d2 5 (by decide), c2]
        · rw [r67, b3 j hj, up2_oth _ _ _ (by decide)]
        · rw [r68, b4 j hj, up2_oth _ _ _ (by decide)]
        · rw [b6, q7 79 (by decide) (by decide), up2_s]
        · exact k1 5 (by decide) (by decide) (by decide) (by decide) (by decide) (by decide) (by decide) (by decide) (by decide)
      · refine ⟨0, by omega, ?_, g4, fun j hj => by omega⟩
        rw [k0 80 (by decide) (by decide) (by decide) (by decide) (by decide) (by decide) (by decide) (by decide), up2_oth _ _ _ (by decide), b8 80 (by decide) (by decide) (by decide) (by decide), up2_s]
        rfl
      · refine ⟨0, by omega, ?_, g5, fun j hj => by omega⟩
        rw [k0 64 (by decide) (by decide) (by decide) (by decide) (by decide) (by decide) (by decide) (by decide), up2_s]
        rfl
    · exfalso
      rw [hfl] at hf
      exact nI_m1n (by omega) hf.symm
  · -- a fault
    have hne : ¬ fl = -1 := by rw [hfl]; exact nI_m1n (by omega)
    rw [if_neg hne] at ex
    have z9 : ∀ x, x < 124 → x ≠ 75 → x ≠ 77 → x ≠ 78 → x ≠ 79 → x ≠ 80 → up2 I' 80 1 0 x = I x := fun x h0 f g h i j => by rw [up2_oth _ _ _ j, hrest x h0 f g h i j]
    obtain ⟨fl2, T2, I2', J2, P2, Mb, Jb, gb, w1, w2, w3, w4, w5⟩ := loop (up2 I' 80 1 0) J' (by rw [z9 101 (by decide) (by decide) (by decide) (by decide) (by decide) (by decide)]; exact t2') (z9 107 (by decide) (by decide) (by decide) (by decide) (by decide) (by decide)) (z9 103 (by decide) (by decide) (by decide) (by decide) (by decide) (by decide)) (z9 104 (by decide) (by decide) (by decide) (by decide) (by decide) (by decide))
    rw [y1] at w1
    obtain ⟨rfl, rfl, rfl, rfl, rfl⟩ : fl = fl2 ∧ T' = T2 ∧ I' = I2' ∧ J' = J2 ∧ P' = P2 := by
      have h := Option.some.inj w1
      simp only [Prod.mk.injEq] at h
      exact h
    rcases w5 with ⟨hf, -⟩ | ⟨f1, hf, hf1, hM⟩
    · exact absurd hf hne
    · refine ⟨(-100) - fl, T', up2 I' 80 1 0, J', P', up2 Mb 101 8 0, Jb, ex, ?_, ?_⟩
      · rw [w2, G_X12_cards_70, hM.2.1, if_pos rfl]
        simp only [letb]
        rw [up2_n _ _ (show ¬ (101 = 101 ∧ 14 = 8) by decide), hM.2.1, if_pos rfl, up2_n _ _ (show ¬ (101 = 101 ∧ 10 = 8) by decide), hM.2.2, hf]
      · have k0 : ∀ x, x ≠ 101 → x ≠ 108 → x ≠ 109 → x ≠ 110 → up2 Mb 101 8 0 x = up2 I' 80 1 0 x := fun x a f g h => by rw [up2_oth _ _ _ a, w4.1 x a f g h]
        have k1 : ∀ y, y ≠ 9 → y ≠ 10 → y ≠ 11 → y ≠ 13 → y ≠ 14 → y ≠ 15 → y ≠ 8 → up2 Mb 101 8 0 101 y = I 101 y := fun y a b c d e f g => by
          rw [up2_n _ _ (by omega), w4.2.1 y a b c d e f, z9 101 (by decide) (by decide) (by decide) (by decide) (by decide) (by decide)]
        have k2 : ∀ x, x < 124 → x ≠ 101 → x ≠ 108 → x ≠ 109 → x ≠ 110 → x ≠ 75 → x ≠ 77 → x ≠ 78 → x ≠ 79 → x ≠ 80 → up2 Mb 101 8 0 x = I x := fun x h a b c d e f g i j => by rw [k0 x a b c d, z9 x h e f g i j]
        have kc : ∀ x, 124 ≤ x → x < 64 + T.1 → up2 Mb 101 8 0 x = I x := fun x a b => by
          rw [k0 x (by omega) (by omega) (by omega) (by omega), up2_oth _ _ _ (by omega), hcells x a b]
        refine rel_mk r q1 kc (fun x hx => ?_) ?_ (k1 50 (by decide) (by decide) (by decide) (by decide) (by decide) (by decide) (by decide)) (k1 48 (by decide) (by decide) (by decide) (by decide) (by decide) (by decide) (by decide)) (fun x hx => ?_) (fun x hx => ?_) ?_ ?_ ?_
        · simp only [List.mem_cons, List.not_mem_nil, or_false] at hx
          exact k2 x (by omega) (by omega) (by omega) (by omega) (by omega) (by omega) (by omega) (by omega) (by omega) (by omega)
        · rw [k2 64 (by decide) (by decide) (by decide) (by decide) (by decide) (by decide) (by decide) (by decide) (by decide) (by decide)]
        · simp only [List.mem_cons, List.not_mem_nil, or_false] at hx
          exact hPr x (by omega) (by omega) (by omega)
        · simp only [List.mem_cons, List.not_mem_nil, or_false] at hx
          rw [w4.2.2 x (by omega), q6 x (by omega)]
        · unfold qNow
          rw [k2 65 (by decide) (by decide) (by decide) (by decide) (by decide) (by decide) (by decide) (by decide) (by decide) (by decide), k2 67 (by decide) (by decide) (by decide) (by decide) (by decide) (by decide) (by decide) (by decide) (by decide) (by decide), k2 68 (by decide) (by decide) (by decide) (by decide) (by decide) (by decide) (by decide) (by decide) (by decide) (by decide), k2 69 (by decide) (by decide) (by decide) (by decide) (by decide) (by decide) (by decide) (by decide) (by decide) (by decide), k2 102 (by decide) (by decide) (by decide) (by decide) (by decide) (by decide) (by decide) (by decide) (by decide) (by decide), k2 103 (by decide) (by decide) (by decide) (by decide) (by decide) (by decide) (by decide) (by decide) (by decide) (by decide), k2 104 (by decide) (by decide) (by decide) (by decide) (by decide) (by decide) (by decide) (by decide) (by decide) (by decide), k2 106 (by decide) (by decide) (by decide) (by decide) (by decide) (by decide) (by decide) (by decide) (by decide) (by decide), k1 0 (by decide) (by decide) (by decide) (by decide) (by decide) (by decide) (by decide), k1 5 (by decide) (by decide) (by decide) (by decide) (by decide) (by decide) (by decide), hPr 66 (by decide) (by decide) (by decide), hPr 69 (by decide) (by decide) (by decide)]
          exact WR.te r.now q1 kc
        · refine ⟨0, by omega, ?_, up2_s _ _ _ _, fun j hj => by omega⟩
          rw [k0 80 (by decide) (by decide) (by decide) (by decide), up2_s]
          rfl
        · unfold qRows
          rw [k2 64 (by decide) (by decide) (by decide) (by decide) (by decide) (by decide) (by decide) (by decide) (by decide) (by decide), k2 88 (by decide) (by decide) (by decide) (by decide) (by decide) (by decide) (by decide) (by decide) (by decide) (by decide), k2 113 (by decide) (by decide) (by decide) (by decide) (by decide) (by decide) (by decide) (by decide) (by decide) (by decide), k1 36 (by decide) (by decide) (by decide) (by decide) (by decide) (by decide) (by decide)]
          exact r.rows
end
