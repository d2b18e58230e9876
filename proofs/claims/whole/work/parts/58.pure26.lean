/-! card -/
section
variable {s : Nat} {T : TM} {I I' : IM} {J J' : JM} {P P' : PM}
theorem CR_add {K n : Nat} {th th' : Nat → Option Nat} {cnt cnt' : Int32} {C C' : Nat → Int32} {kd wt wd cl : Int32} (h : CR T I th cnt cnt' C n) (hn : n < 6) (h60 : 60 ≤ T.1) (hK : kmapR K kd) (hF : isF (nT T K 0) (64 + T.1) = true) (hI : ∀ x, 124 ≤ x → x < 64 + T.1 → I' x = I x) (hc : I' (64 + T.1) 0 = nI n ∧ I' (64 + T.1) 1 = wt ∧ I' (64 + T.1) 2 = wd ∧ I' (64 + T.1) 3 = cl) (hr : (1 ≤ wt.toInt ∧ wt.toInt ≤ 99) ∧ (1 ≤ wd.toInt ∧ wd.toInt ≤ 9) ∧ -4 ≤ cl.toInt ∧ cl.toInt ≤ 4) (hth : ∀ j, j ≠ n → th' j = th j) (hthn : th' n = some (64 + T.1)) (hC : ∀ i, i < 4 * n → C' i = C i) (hCn : C' (4 * n) = kd ∧ C' (4 * n + 1) = wt ∧ C' (4 * n + 2) = wd ∧ C' (4 * n + 3) = cl) : CR (nT T K 0) I' th' (nI (n + 1)) (nI (n + 1)) C' (n + 1) := by
  have h0 := h.nT (K := K) (m := 0) hI
  obtain ⟨h1, h2, h3, h4, h5⟩ := h0
  refine ⟨by omega, rfl, rfl, fun j hj => ?_, ?_⟩
  · by_cases q : j = n
    · subst q
      refine ⟨64 + T.1, hthn, by omega, hF, ?_, hc.1, ?_, ?_, ?_, ?_, ?_, ?_⟩
      · rw [show (nT T K 0).2.1 (64 + T.1) = K from va_up_self _ _ _, hCn.1]; exact hK
      · rw [hCn.2.1]; exact hc.2.1
      · rw [hCn.2.2.1]; exact hc.2.2.1
      · rw [hCn.2.2.2]; exact hc.2.2.2
      · rw [hCn.2.1]; exact hr.1
      · rw [hCn.2.2.1]; exact hr.2.1
      · rw [hCn.2.2.2]; exact hr.2.2
    · obtain ⟨c, e, r⟩ := h4 j (by omega)
      refine ⟨c, by rw [hth j q]; exact e, ?_⟩
      rw [hC _ (by omega), hC _ (by omega), hC _ (by omega), hC _ (by omega)]
      exact r
  · unfold fOk at h5 ⊢
    rw [List.all_eq_true] at h5 ⊢
    intro i hi
    by_cases q : i = n
    · rw [q, hthn]; exact hF
    · rw [hth i q]; exact h5 i hi
theorem AR_add {B n : Nat} {th th' : Nat → Option Nat} {C C' A A' : Nat → Int32} {pa : Option Nat} (h : AR B n th C A pa A') (hth : ∀ j, j ≠ n → th' j = th j) (hC : ∀ i, i < 4 * n → C' i = C i) : AR B (n + 1) th' C' A pa A' := by
  rcases h with h | ⟨c, j, m, h1, h2, h3, h4, h5, h6, h7, h8⟩
  · exact Or.inl h
  · exact Or.inr ⟨c, j, m, by omega, h2, by rw [hth j (by omega)]; exact h3, h4, by rw [hC _ (by omega)]; exact h5, h6, h7, h8⟩
theorem rel_new {K m : Nat} (r : Rel s T I J P) (hI : ∀ x, x < 124 → x ≠ 65 → x ≠ 101 → x ≠ 102 → I' x = I x) (h101 : ∀ y, y ≠ 0 → I' 101 y = I 101 y) (hJ : ∀ x, x < 124 → J' x = J x) (hP : ∀ x, x < 124 → x ≠ 66 → P' x = P x) (hc : ∀ x, 124 ≤ x → x < 64 + T.1 → I' x = I x) (hnow : qNow s (nT T K m) I' P') : Rel s (nT T K m) I' J' P' := by
  have h60 := r.t60
  refine ⟨by show 60 ≤ T.1 + 1; omega, by rw [hI 105 (by decide) (by decide) (by decide) (by decide)]; exact r.sin, ?_, hnow, ?_, ?_, ?_, ?_, ?_, ?_⟩
  · unfold qShp; rw [hP 84 (by decide) (by decide)]; exact r.shp
  · unfold qKept
    rw [hI 64 (by decide) (by decide) (by decide) (by decide), h101 50 (by decide), hI 70 (by decide) (by decide) (by decide) (by decide), hI 72 (by decide) (by decide) (by decide) (by decide), hI 73 (by decide) (by decide) (by decide) (by decide), hI 74 (by decide) (by decide) (by decide) (by decide), hI 122 (by decide) (by decide) (by decide) (by decide), hP 71 (by decide) (by decide), hP 74 (by decide) (by decide)]
    rcases r.kept with h | ⟨h1, h2, h3⟩
    · exact Or.inl h
    · exact Or.inr ⟨h1, h2, h3.nT hc⟩
  · unfold qTape; rw [hI 80 (by decide) (by decide) (by decide) (by decide), hI 81 (by decide) (by decide) (by decide) (by decide), h101 8 (by decide), hI 107 (by decide) (by decide) (by decide) (by decide)]; exact r.tape
  · unfold qRows; rw [hI 64 (by decide) (by decide) (by decide) (by decide), hI 88 (by decide) (by decide) (by decide) (by decide), h101 36 (by decide), hI 113 (by decide) (by decide) (by decide) (by decide)]; exact r.rows
  · intro q hq
    rw [hI _ (by omega) (by omega) (by omega) (by omega), hJ _ (by omega), hI 115 (by decide) (by decide) (by decide) (by decide), hI 116 (by decide) (by decide) (by decide) (by decide), hJ 117 (by decide)]
    exact r.sh q hq
  · unfold qShf; rw [hI 85 (by decide) (by decide) (by decide) (by decide), hI 86 (by decide) (by decide) (by decide) (by decide), hI 87 (by decide) (by decide) (by decide) (by decide), hI 118 (by decide) (by decide) (by decide) (by decide), hI 119 (by decide) (by decide) (by decide) (by decide), hI 120 (by decide) (by decide) (by decide) (by decide)]; exact r.shf
  · unfold qTr; rw [hI 82 (by decide) (by decide) (by decide) (by decide), hI 83 (by decide) (by decide) (by decide) (by decide), h101 48 (by decide), hI 121 (by decide) (by decide) (by decide) (by decide)]; exact r.tr
theorem c4_idx : ∀ j, j < 6 → (inb (4 * nI j) 24 = true ∧ (4 * nI j).toNatClampNeg = 4 * j) ∧ (inb (4 * nI j + 1) 24 = true ∧ (4 * nI j + 1).toNatClampNeg = 4 * j + 1) ∧ (inb (4 * nI j + 2) 24 = true ∧ (4 * nI j + 2).toNatClampNeg = 4 * j + 2) ∧ (inb (4 * nI j + 3) 24 = true ∧ (4 * nI j + 3).toNatClampNeg = 4 * j + 3) := by decide +kernel
/-- four numbers of a card -/
def mk4m (I : IM) (b n : Nat) (p q r t : Int32) : IM := up2 (up2 (up2 (up2 I b (4 * n) p) b (4 * n + 1) q) b (4 * n + 2) r) b (4 * n + 3) t
theorem mk4m_oth {b n x : Nat} {p q r t : Int32} (h : x ≠ b) : mk4m I b n p q r t x = I x := by
  unfold mk4m
  rw [up2_oth _ _ _ h, up2_oth _ _ _ h, up2_oth _ _ _ h, up2_oth _ _ _ h]
theorem mk4m_lo {b n i : Nat} {p q r t : Int32} (h : i < 4 * n) : mk4m I b n p q r t b i = I b i := by
  unfold mk4m
  rw [up2_n _ _ (by omega), up2_n _ _ (by omega), up2_n _ _ (by omega), up2_n _ _ (by omega)]
theorem mk4m_at {b n : Nat} {p q r t : Int32} : mk4m I b n p q r t b (4 * n) = p ∧ mk4m I b n p q r t b (4 * n + 1) = q ∧ mk4m I b n p q r t b (4 * n + 2) = r ∧ mk4m I b n p q r t b (4 * n + 3) = t := by
  unfold mk4m
  refine ⟨?_, ?_, ?_, up2_s _ _ _ _⟩
  · rw [up2_n _ _ (by omega), up2_n _ _ (by omega), up2_n _ _ (by omega), up2_s]
  · rw [up2_n _ _ (by omega), up2_n _ _ (by omega), up2_s]
  · rw [up2_n _ _ (by omega), up2_s]
theorem q_card (r : Rel s T I J P) (p1 p2 p3 p4 : Int32) : ∃ v T1 I1 J1 P1 I2, F_X11_card T I J P p1 p2 p3 p4 = some (v, T1, I1, J1, P1) ∧ F_X12_card I1 p1 p2 p3 p4 = some (v, I2) ∧ Rel s T1 I2 J1 P1 := by
  obtain ⟨n, hC, hz, hL, hH, hA⟩ := r.now
  have h6 := hC.1
  have h60 := r.t60
  rcases like_1 (p1 := p1) (p2 := p2) (p3 := p3) (p4 := p4) with g | ⟨g, g1, hr⟩
  · refine ⟨-1, T, I, J, P, I, ?_, ?_, r⟩
    · rw [like_x, if_pos g]
    · unfold F_X12_card; rw [g]; rfl
  · by_cases hn : n < 6
    · obtain ⟨K, k1, k2, e⟩ := x_add (J := J) (P := P) (w := 65) h60 (by decide) hn hC.2.1 (p2 := p2) (p3 := p3) (p4 := p4) g1
      generalize hI1 : up2 (mk4 (nI0 T I) (64 + T.1) (nI n) p2 p3 p4) 65 1 (nI (n + 1)) = I1 at e
      have i1 : (∀ x, x ≠ 64 + T.1 → x ≠ 65 → I1 x = I x) ∧ (∀ y, y ≠ 1 → I1 65 y = I 65 y) ∧ I1 65 1 = nI (n + 1) ∧ I1 (64 + T.1) 0 = nI n ∧ I1 (64 + T.1) 1 = p2 ∧ I1 (64 + T.1) 2 = p3 ∧ I1 (64 + T.1) 3 = p4 := by
        subst hI1
        have hx : ∀ x, x ≠ 64 + T.1 → nI0 T I x = I x := fun x h => va_up_ne _ _ h
        refine ⟨fun x a b => by rw [up2_oth _ _ _ b, mk4_oth a, hx x a], fun y hy => by rw [up2_n _ _ (by omega), mk4_oth (by omega), hx _ (by omega)], up2_s _ _ _ _, ?_⟩
        rw [up2_oth _ _ _ (show 64 + T.1 ≠ 65 by omega)]
        exact mk4_c
      obtain ⟨a1, a2, a3, a4⟩ := i1
      have m0 : I1 101 0 = nI n := by rw [a1 101 (by omega) (by decide)]; exact hC.2.2.1
      obtain ⟨⟨x0, y0⟩, ⟨x1, y1⟩, ⟨x2, y2⟩, x3, y3⟩ := c4_idx n hn
      refine ⟨nI n, nT T K 0, I1, nJ0 T J, up2 (nP0 T P) (65 + 1) n (some (64 + T.1)), up2 (mk4m I1 102 n p1 p2 p3 p4) 101 0 (nI (n + 1)), ?_, ?_, ?_⟩
      · rw [like_x, if_neg (by rw [g]; exact n10), e]
        simp only [Option.bind_some]
        rw [if_neg n10, a3, nI_m1]
      · unfold F_X12_card
        have n6 : ¬ nI n = 6 := fun z => by
          have := (nI_eq (a := n) (b := 6) (by omega) (by decide)).mp z
          omega
        rw [g, if_neg n10, m0, if_neg n6, if_pos x0, y0]
        simp only [letb]
        rw [up2_oth _ _ _ (show 101 ≠ 102 by decide), m0, if_pos x1, y1, up2_oth _ _ _ (show 101 ≠ 102 by decide), up2_oth _ _ _ (show 101 ≠ 102 by decide), m0, if_pos x2, y2, up2_oth _ _ _ (show 101 ≠ 102 by decide), up2_oth _ _ _ (show 101 ≠ 102 by decide), up2_oth _ _ _ (show 101 ≠ 102 by decide), m0, if_pos x3, y3, up2_oth _ _ _ (show 101 ≠ 102 by decide), up2_oth _ _ _ (show 101 ≠ 102 by decide), up2_oth _ _ _ (show 101 ≠ 102 by decide), up2_oth _ _ _ (show 101 ≠ 102 by decide), m0, nI_1, up2_s, nI_m1]
        rfl
      · have z : ∀ x, x ≠ 101 → x ≠ 102 → up2 (mk4m I1 102 n p1 p2 p3 p4) 101 0 (nI (n + 1)) x = I1 x := fun x b c => by rw [up2_oth _ _ _ b, mk4m_oth c]
        have hcell : ∀ x, 124 ≤ x → x < 64 + T.1 → up2 (mk4m I1 102 n p1 p2 p3 p4) 101 0 (nI (n + 1)) x = I x := fun x b c => by rw [z x (by omega) (by omega), a1 x (by omega) (by omega)]
        have z102 : up2 (mk4m I1 102 n p1 p2 p3 p4) 101 0 (nI (n + 1)) 102 = mk4m I1 102 n p1 p2 p3 p4 102 := up2_oth _ _ _ (by decide)
        have hCl : ∀ i, i < 4 * n → up2 (mk4m I1 102 n p1 p2 p3 p4) 101 0 (nI (n + 1)) 102 i = I 102 i := fun i hi => by rw [z102, mk4m_lo hi, a1 102 (by omega) (by decide)]
        have hth : ∀ j, j ≠ n → (up2 (nP0 T P) (65 + 1) n (some (64 + T.1))) 66 j = P 66 j := fun j hj => by
          rw [up2_n _ _ (by omega)]
          unfold nP0
          rw [va_up_ne _ _ (by omega)]
        refine rel_new r (fun x b c d e => ?_) (fun y hy => ?_) (fun x b => by unfold nJ0; rw [va_up_ne _ _ (by omega)]) (fun x b c => ?_) hcell ?_
        · rw [z x d e, a1 x (by omega) c]
        · rw [up2_n _ _ (by omega), mk4m_oth (by decide), a1 101 (by omega) (by decide)]
        · rw [up2_oth _ _ _ (by omega)]
          unfold nP0
          rw [va_up_ne _ _ (by omega)]
        · refine ⟨n + 1, ?_, ?_, ?_, ?_, ?_⟩
          · rw [z 65 (by decide) (by decide), a3, up2_s]
            exact CR_add hC hn h60 k1 k2 hcell (by rw [z _ (by omega) (by omega)]; exact a4) hr hth (up2_s _ _ _ _) hCl (by rw [z102]; exact mk4m_at)
          · rw [z 65 (by decide) (by decide), a2 5 (by decide), up2_n _ _ (by omega), mk4m_oth (by decide), a1 101 (by omega) (by decide)]
            exact hz
          · rw [z 67 (by decide) (by decide), z 103 (by decide) (by decide), a1 67 (by omega) (by decide), a1 103 (by omega) (by decide)]
            exact hL
          · rw [z 68 (by decide) (by decide), z 104 (by decide) (by decide), a1 68 (by omega) (by decide), a1 104 (by omega) (by decide)]
            exact hH
          · rw [z 69 (by decide) (by decide), z 106 (by decide) (by decide), a1 69 (by omega) (by decide), a1 106 (by omega) (by decide)]
            have : (up2 (nP0 T P) (65 + 1) n (some (64 + T.1))) 69 0 = P 69 0 := by
              rw [up2_oth _ _ _ (by decide)]
              unfold nP0
              rw [va_up_ne _ _ (by omega)]
            rw [this]
            exact AR_add hA hth hCl
    · have hn6 : n = 6 := by omega
      subst hn6
      refine ⟨-2, T, I, J, P, I, ?_, ?_, r⟩
      · rw [like_x, if_neg (by rw [g]; exact n10)]
        unfold F_X10_addCard
        rw [hC.2.1]
        rfl
      · unfold F_X12_card
        rw [g, hC.2.2.1]
        rfl
end
