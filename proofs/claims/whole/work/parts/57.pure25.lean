/-! feed -/
section
variable {s : Nat} {T : TM} {I I' : IM} {J : JM} {P P' : PM}
def xby (e : Int64) (i : Nat) : Int32 := vp_nar .byte ((Int32.toInt8 (Int64.toInt32 (e >>> (Int32.toInt64 (8 * nI i) &&& 63)))).toInt32)
def yby (e : Int64) (i : Nat) : Int32 := Int64.toInt32 ((e >>> (Int32.toInt64 (8 * nI i) &&& 63)) &&& 255)
theorem nar_byte (z : Int32) : vp_nar .byte z = z.toInt8.toInt32 := rfl
theorem v_low (v : Int64) : (v &&& 255).toInt = ((v.toBitVec.toNat % 256 : Nat) : Int) := by
  have h : (v &&& 255).toBitVec.toNat = v.toBitVec.toNat % 256 := by
    show (v.toBitVec &&& (255 : Int64).toBitVec).toNat = _
    rw [BitVec.toNat_and]
    exact Nat.and_two_pow_sub_one_eq_mod v.toBitVec.toNat 8
  have h2 : (v &&& 255).toBitVec.toInt = ((v &&& 255).toBitVec.toNat : Int) := BitVec.toInt_eq_toNat_of_lt (by rw [h]; omega)
  rw [← Int64.toInt_toBitVec, h2, h]
theorem by_of (v : Int64) : BY ((((v.toInt32).toInt8).toInt32).toInt8.toInt32) ((v &&& 255).toInt32) := by
  have hy : ((v &&& 255).toInt32).toInt = ((v.toBitVec.toNat % 256 : Nat) : Int) := by
    rw [Int64.toInt_toInt32, v_low, Int.bmod_eq_of_le (by omega) (by omega)]
  have hx : ((((v.toInt32).toInt8).toInt32).toInt8.toInt32).toInt = Int.bmod (v.toBitVec.toNat : Int) 256 := by
    rw [Int8.toInt_toInt32, Int32.toInt_toInt8, Int8.toInt_toInt32, Int32.toInt_toInt8, Int64.toInt_toInt32, ← Int64.toInt_toBitVec, BitVec.toInt_eq_toNat_bmod, Int.bmod_bmod_of_dvd (Nat.dvd_refl _), Int.bmod_bmod_of_dvd (show 2 ^ 8 ∣ 2 ^ 32 by decide), Int.bmod_bmod_of_dvd (show 2 ^ 8 ∣ 2 ^ 64 by decide)]
  unfold BY
  rw [hy, hx, Int.bmod_def]
  generalize v.toBitVec.toNat = n
  refine ⟨by omega, by omega, ?_⟩
  split <;> split <;> omega
theorem by_b (e : Int64) (i : Nat) : BY (xby e i) (yby e i) := by
  unfold xby yby
  rw [nar_byte]
  exact by_of _
theorem x_feedL {N n8 : Nat} {e : Int64} (h8 : n8 ≤ 8) : ∀ (m i k : Nat) (I : IM), i + m = n8 → I 80 1 = nI k → k + m ≤ 200 → ∀ f, m < f → ∃ I', G_X6_takeBytes_21 N e (nI n8) f (nI i) I = some (1, I') ∧ (∀ x, x ≠ 80 → x ≠ 81 → I' x = I x) ∧ I' 80 1 = nI (k + m) ∧ (∀ j, j < m → I' 81 (k + j) = xby e (i + j)) ∧ ∀ y, y < k → I' 81 y = I 81 y := by
  intro m
  induction m with
  | zero =>
    intro i k I hi hk h200 f hf
    obtain ⟨f, rfl⟩ : ∃ g, f = g + 1 := ⟨f - 1, by omega⟩
    refine ⟨I, ?_, fun _ _ _ => rfl, hk, fun j hj => by omega, fun _ _ => rfl⟩
    rw [G_X6_takeBytes_21, if_pos (nI_le (by omega) (by omega))]
  | succ m ih =>
    intro i k I hi hk h200 f hf
    obtain ⟨f, rfl⟩ : ∃ g, f = g + 1 := ⟨f - 1, by omega⟩
    obtain ⟨I1, e1, f1, f2, f3, f4⟩ := ih (i + 1) (k + 1) (up2 (up2 I 81 k (xby e i)) 80 1 (nI (k + 1))) (by omega) (up2_s _ _ _ _) (by omega) f (by omega)
    refine ⟨I1, ?_, fun x a b => by rw [f1 x a b, up2_oth _ _ _ a, up2_oth _ _ _ b], by rw [f2]; congr 1; omega, fun j hj => ?_, fun y hy => ?_⟩
    · rw [G_X6_takeBytes_21, if_neg (nI_ge (by omega) (by omega)), hk, if_pos (inbN (by omega) (by decide)), nI_clamp (by omega)]
      simp only [letb]
      rw [up2_oth _ _ _ (show 80 ≠ 81 by decide), hk, nI_1, nI_1]
      exact e1
    · by_cases q : j = 0
      · subst q
        rw [f4 _ (by omega), up2_oth _ _ _ (by decide), Nat.add_zero, up2_s, Nat.add_zero]
      · have := f3 (j - 1) (by omega)
        rw [show k + 1 + (j - 1) = k + j by omega, show i + 1 + (j - 1) = i + j by omega] at this
        exact this
    · rw [f4 y (by omega), up2_oth _ _ _ (by decide), up2_n _ _ (by omega)]
theorem m_feedL {N n8 : Nat} {e : Int64} (h8 : n8 ≤ 8) : ∀ (m i k : Nat) (I : IM), i + m = n8 → I 101 8 = nI k → k + m ≤ 200 → ∀ f, m < f → ∃ I', G_X12_feed_30 N e (nI n8) f (nI i) I = some (nI (k + m), I') ∧ (∀ x, x ≠ 101 → x ≠ 107 → I' x = I x) ∧ (∀ y, y ≠ 8 → I' 101 y = I 101 y) ∧ I' 101 8 = nI (k + m) ∧ (∀ j, j < m → I' 107 (k + j) = yby e (i + j)) ∧ ∀ y, y < k → I' 107 y = I 107 y := by
  intro m
  induction m with
  | zero =>
    intro i k I hi hk h200 f hf
    obtain ⟨f, rfl⟩ : ∃ g, f = g + 1 := ⟨f - 1, by omega⟩
    refine ⟨I, ?_, fun _ _ _ => rfl, fun _ _ => rfl, hk, fun j hj => by omega, fun _ _ => rfl⟩
    rw [G_X12_feed_30, if_pos (nI_le (by omega) (by omega)), hk]
    rfl
  | succ m ih =>
    intro i k I hi hk h200 f hf
    obtain ⟨f, rfl⟩ : ∃ g, f = g + 1 := ⟨f - 1, by omega⟩
    obtain ⟨I1, e1, f1, f5, f2, f3, f4⟩ := ih (i + 1) (k + 1) (up2 (up2 I 107 k (yby e i)) 101 8 (nI (k + 1))) (by omega) (up2_s _ _ _ _) (by omega) f (by omega)
    rw [show k + 1 + m = k + (m + 1) by omega] at e1 f2
    refine ⟨I1, ?_, fun x a b => by rw [f1 x a b, up2_oth _ _ _ a, up2_oth _ _ _ b], fun y hy => by rw [f5 y hy, up2_n _ _ (by omega), up2_oth _ _ _ (by decide)], f2, fun j hj => ?_, fun y hy => ?_⟩
    · rw [G_X12_feed_30, if_neg (nI_ge (by omega) (by omega)), hk, if_pos (inbN (by omega) (by decide)), nI_clamp (by omega)]
      simp only [letb]
      rw [up2_oth _ _ _ (show 101 ≠ 107 by decide), hk, nI_1, nI_1]
      exact e1
    · by_cases q : j = 0
      · subst q
        rw [f4 _ (by omega), up2_oth _ _ _ (by decide), Nat.add_zero, up2_s, Nat.add_zero]
      · have := f3 (j - 1) (by omega)
        rw [show k + 1 + (j - 1) = k + j by omega, show i + 1 + (j - 1) = i + j by omega] at this
        exact this
    · rw [f4 y (by omega), up2_oth _ _ _ (by decide), up2_n _ _ (by omega)]
theorem q_feed {N : Nat} (hN : 8 < N) (r : Rel s T I J P) (e : Int64) (p : Int32) : ∃ v I1 I2, F_X11_feed N I e p = some (v, I1) ∧ F_X12_feed N I1 e p = some (v, I2) ∧ Rel s T I2 J P := by
  obtain ⟨k, hk, t1, t2, t3⟩ := r.tape
  rcases in0 p 1 8 (a := 1) (b := 8) rfl rfl with ⟨g, h⟩ | ⟨g, h⟩
  · refine ⟨-1, I, I, ?_, ?_, r⟩
    · unfold F_X11_feed
      simp only [Int32.lt_iff_toInt_lt, Int32.le_iff_toInt_le, Int32.reduceToInt]
      by_cases a1 : p.toInt < 1
      · rw [if_pos a1]
      · rw [if_neg a1, if_neg (by omega)]
    · unfold F_X12_feed; rw [g]; rfl
  · obtain ⟨m, hm, hm1, rfl⟩ : ∃ m, m ≤ 8 ∧ 1 ≤ m ∧ p = nI m := ⟨p.toInt.toNat, by omega, by omega, of_nat (by omega)⟩
    have ex : F_X11_feed N I e (nI m) = ((if nI m ≤ 200 - nI k then (G_X6_takeBytes_21 N e (nI m) N 0 I) else (some (0, I))).bind (fun x3 => (if x3.1 = 0 then (some ((-2), x3.2)) else (some ((x3.2 80 1), x3.2))))) := by
      unfold F_X11_feed F_X6_takeBytes
      have a1 : ¬ nI m < 1 := nI_nlt (a := m) (b := 1) hm1 (by omega)
      have a2 : nI m ≤ 8 := nI_le (a := m) (b := 8) hm (by decide)
      rw [if_neg a1, if_pos a2, if_neg (nI_pos (by omega)), t1]
    have hsub : (200 - nI k).toInt = 200 - (k : Int) := by
      rw [Int32.toInt_sub, nI_toInt (by omega), show (200 : Int32).toInt = 200 from rfl, Int.bmod_eq_of_le (by omega) (by omega)]
    have em : ∀ Im : IM, Im 101 8 = nI k → F_X12_feed N Im e (nI m) = if nI (k + m) ≤ 200 then (G_X12_feed_30 N e (nI m) N 0 Im) else (some ((-2), Im)) := fun Im hI => by
      unfold F_X12_feed
      rw [g, if_neg n10, hI, nI_add]
    by_cases hle : k + m ≤ 200
    · have c1 : nI m ≤ 200 - nI k := by rw [Int32.le_iff_toInt_le, hsub, nI_toInt (by omega)]; omega
      obtain ⟨I1, e1, f1, f2, f3, f4⟩ := x_feedL (N := N) (e := e) hm m 0 k I (by omega) t1 hle N (by omega)
      obtain ⟨I2, e2, g1, g5, g2, g3, g4⟩ := m_feedL (N := N) (e := e) hm m 0 k I1 (by omega) (by rw [f1 101 (by decide) (by decide)]; exact t2) hle N (by omega)
      refine ⟨nI (k + m), I1, I2, ?_, ?_, ?_⟩
      · rw [ex, if_pos c1, show (0 : Int32) = nI 0 from rfl, e1]
        simp only [Option.bind_some]
        rw [if_neg (show ¬ (1 : Int32) = nI 0 by decide), f2]
      · rw [em I1 (by rw [f1 101 (by decide) (by decide)]; exact t2), if_pos (show nI (k + m) ≤ 200 from nI_le (a := k + m) (b := 200) hle (by decide))]
        exact e2
      · have f : Fr [80, 81, 107] [] [] [8] [] I I2 J J P P := ⟨fun x hx ha _ => by
          simp only [List.mem_cons, List.not_mem_nil, or_false, not_or] at hx
          rw [g1 x ha hx.2.2, f1 x hx.1 hx.2.1], fun y hy => by
          simp only [List.mem_cons, List.not_mem_nil, or_false] at hy
          rw [g5 y hy, f1 101 (by decide) (by decide)], fun y _ => by rw [g1 64 (by decide) (by decide), f1 64 (by decide) (by decide)], fun _ _ => rfl, fun _ _ => rfl⟩
        refine ⟨r.t60, fr_sin r.sin f (by decide), fr_shp r.shp f (by decide), fr_now r.now f (by decide), fr_kept r.kept f (by decide), ?_, fr_rows r.rows f (by decide), fr_sh r.sh f (by decide), fr_shf r.shf f (by decide), fr_tr r.tr f (by decide)⟩
        refine ⟨k + m, hle, by rw [g1 80 (by decide) (by decide)]; exact f2, g2, fun j hj => ?_⟩
        rw [g1 81 (by decide) (by decide)]
        by_cases q : j < k
        · rw [f4 j q, g4 j q, f1 107 (by decide) (by decide)]
          exact t3 j q
        · have a1 := f3 (j - k) (by omega)
          have a2 := g3 (j - k) (by omega)
          rw [show k + (j - k) = j by omega] at a1 a2
          rw [a1, a2]
          exact by_b e _
    · have c1 : ¬ nI m ≤ 200 - nI k := by rw [Int32.le_iff_toInt_le, hsub, nI_toInt (by omega)]; omega
      refine ⟨-2, I, I, ?_, ?_, r⟩
      · rw [ex, if_neg c1]; rfl
      · rw [em I t2, if_neg (show ¬ nI (k + m) ≤ 200 from nI_ge (a := 200) (b := k + m) (by omega) (by omega))]
end
/-! a new card -/
section
variable {s : Nat} {T : TM} {I I' : IM} {J : JM} {P P' : PM}
theorem isF_nT {K n c : Nat} (h : isF T c = true) : isF (nT T K n) c = true ∧ (nT T K n).2.1 c = T.2.1 c ∧ c < 64 + T.1 := by
  unfold isF at h ⊢
  simp only [Bool.and_eq_true, decide_eq_true_eq] at h ⊢
  have e : (nT T K n).2.1 c = T.2.1 c := va_up_ne _ _ (by omega)
  have e1 : (nT T K n).1 = T.1 + 1 := rfl
  refine ⟨⟨h.1, by rw [e1]; omega, by rw [e]; exact h.2.2⟩, e, h.2.1⟩
theorem fOk_nT {K n : Nat} {th : Nat → Option Nat} (h : fOk T th 6 = true) : fOk (nT T K n) th 6 = true := by
  unfold fOk at h ⊢
  rw [List.all_eq_true] at h ⊢
  intro i hi
  have := h i hi
  cases hq : th i with
  | none => rfl
  | some c =>
    rw [hq] at this
    exact (isF_nT this).1
theorem CardR.nT {K n c j : Nat} {kd wt wd cl : Int32} (h : CardR T I c j kd wt wd cl) (hI : ∀ x, 124 ≤ x → x < 64 + T.1 → I' x = I x) : CardR (nT T K n) I' c j kd wt wd cl := by
  have h' := h.fr hI
  obtain ⟨h1, h2, h3, h4⟩ := h'
  obtain ⟨a1, a2, -⟩ := isF_nT (K := K) (n := n) h2
  exact ⟨h1, a1, by rw [a2]; exact h3, h4⟩
theorem CR.nT {K m n : Nat} {th : Nat → Option Nat} {cnt cnt' : Int32} {C : Nat → Int32} (h : CR T I th cnt cnt' C n) (hI : ∀ x, 124 ≤ x → x < 64 + T.1 → I' x = I x) : CR (nT T K m) I' th cnt cnt' C n := by
  obtain ⟨h1, h2, h3, h4, h5⟩ := h
  refine ⟨h1, h2, h3, fun j hj => ?_, fOk_nT h5⟩
  obtain ⟨c, e, r⟩ := h4 j hj
  exact ⟨c, e, r.nT hI⟩
theorem WR.nT {B K m : Nat} {th : Nat → Option Nat} {cnt z : Int32} {L H A : Nat → Int32} {pa : Option Nat} {cnt' z' : Int32} {C L' H' A' : Nat → Int32} (h : WR B T I th cnt z L H A pa cnt' z' C L' H' A') (hI : ∀ x, 124 ≤ x → x < 64 + T.1 → I' x = I x) : WR B (nT T K m) I' th cnt z L H A pa cnt' z' C L' H' A' := by
  obtain ⟨n, h1, h2⟩ := h
  exact ⟨n, h1.nT hI, h2⟩
/-- a new cell behind all others changes nothing -/
theorem Rel.nT {K m : Nat} (r : Rel s T I J P) : Rel s (nT T K m) (nI0 T I) (nJ0 T J) (nP0 T P) := by
  have h60 := r.t60
  have hI : ∀ x, x < 124 → nI0 T I x = I x := fun x hx => va_up_ne _ _ (by omega)
  have hJ : ∀ x, x < 124 → nJ0 T J x = J x := fun x hx => va_up_ne _ _ (by omega)
  have hP : ∀ x, x < 124 → nP0 T P x = P x := fun x hx => va_up_ne _ _ (by omega)
  have hc : ∀ x, 124 ≤ x → x < 64 + T.1 → nI0 T I x = I x := fun x _ hx => va_up_ne _ _ (by omega)
  refine ⟨by show 60 ≤ T.1 + 1; omega, by rw [hI 105 (by decide)]; exact r.sin, ?_, ?_, ?_, ?_, ?_, ?_, ?_, ?_⟩
  · unfold qShp; rw [hP 84 (by decide)]; exact r.shp
  · have := WR.nT (K := K) (m := m) r.now hc
    unfold qNow
    rw [hI 65 (by decide), hI 67 (by decide), hI 68 (by decide), hI 69 (by decide), hI 101 (by decide), hI 102 (by decide), hI 103 (by decide), hI 104 (by decide), hI 106 (by decide), hP 66 (by decide), hP 69 (by decide)]
    exact this
  · unfold qKept
    rw [hI 64 (by decide), hI 101 (by decide), hI 70 (by decide), hI 72 (by decide), hI 73 (by decide), hI 74 (by decide), hI 122 (by decide), hP 71 (by decide), hP 74 (by decide)]
    rcases r.kept with h | ⟨h1, h2, h3⟩
    · exact Or.inl h
    · exact Or.inr ⟨h1, h2, h3.nT hc⟩
  · unfold qTape; rw [hI 80 (by decide), hI 81 (by decide), hI 101 (by decide), hI 107 (by decide)]; exact r.tape
  · unfold qRows; rw [hI 64 (by decide), hI 88 (by decide), hI 101 (by decide), hI 113 (by decide)]; exact r.rows
  · intro q hq
    rw [hI _ (by omega), hJ _ (by omega), hI 115 (by decide), hI 116 (by decide), hJ 117 (by decide)]
    exact r.sh q hq
  · unfold qShf; rw [hI 85 (by decide), hI 86 (by decide), hI 87 (by decide), hI 118 (by decide), hI 119 (by decide), hI 120 (by decide)]; exact r.shf
  · unfold qTr; rw [hI 82 (by decide), hI 83 (by decide), hI 101 (by decide), hI 121 (by decide)]; exact r.tr
def mk4 (I : IM) (c : Nat) (a b d e : Int32) : IM := up2 (up2 (up2 (up2 I c 0 a) c 1 b) c 2 d) c 3 e
theorem x_thing {p1 p2 p3 p4 p5 : Int32} (h : F_X12_in p1 0 5 = 1) : ∃ K, kmapR K p1 ∧ fks.contains K = true ∧ F_X10_thingOf T I J P p1 p2 p3 p4 p5 = some (some (64 + T.1), nT T K 0, mk4 (nI0 T I) (64 + T.1) p2 p3 p4 p5, nJ0 T J, nP0 T P) := by
  rcases in0 p1 0 5 (a := 0) (b := 5) rfl rfl with ⟨g, h1⟩ | ⟨g, h1⟩
  · rw [g] at h; exact absurd h (by decide)
  · have : p1.toInt = (0 : Nat) ∨ p1.toInt = (1 : Nat) ∨ p1.toInt = (2 : Nat) ∨ p1.toInt = (3 : Nat) ∨ p1.toInt = (4 : Nat) ∨ p1.toInt = (5 : Nat) := by omega
    rcases this with e | e | e | e | e | e <;> have hp := nat_eq e <;> clear e <;> subst hp
    · exact ⟨0, Or.inl ⟨rfl, rfl⟩, rfl, rfl⟩
    · exact ⟨4, Or.inr (Or.inl ⟨rfl, rfl⟩), rfl, rfl⟩
    · exact ⟨5, Or.inr (Or.inr (Or.inl ⟨rfl, rfl⟩)), rfl, rfl⟩
    · exact ⟨8, Or.inr (Or.inr (Or.inr (Or.inl ⟨rfl, rfl⟩))), rfl, rfl⟩
    · exact ⟨2, Or.inr (Or.inr (Or.inr (Or.inr (Or.inl ⟨rfl, rfl⟩)))), rfl, rfl⟩
    · exact ⟨9, Or.inr (Or.inr (Or.inr (Or.inr (Or.inr ⟨rfl, rfl⟩)))), rfl, rfl⟩
theorem x_add {w n : Nat} (h60 : 60 ≤ T.1) (hw : w < 123) (hn : n < 6) (hc : I w 1 = nI n) {p1 p2 p3 p4 : Int32} (h : F_X12_in p1 0 5 = 1) : ∃ K, kmapR K p1 ∧ isF (nT T K 0) (64 + T.1) = true ∧ F_X10_addCard T I J P w p1 p2 p3 p4 = some (1, nT T K 0, up2 (mk4 (nI0 T I) (64 + T.1) (nI n) p2 p3 p4) w 1 (nI (n + 1)), nJ0 T J, up2 (nP0 T P) (w + 1) n (some (64 + T.1))) := by
  obtain ⟨K, k1, k2, e⟩ := x_thing (T := T) (I := I) (J := J) (P := P) (p2 := nI n) (p3 := p2) (p4 := p3) (p5 := p4) h
  have hF : isF (nT T K 0) (64 + T.1) = true := by
    unfold isF
    have e1 : (nT T K 0).1 = T.1 + 1 := rfl
    have e2 : (nT T K 0).2.1 (64 + T.1) = K := va_up_self _ _ _
    rw [e1, e2, k2]
    simp only [Bool.and_true, Bool.and_eq_true, decide_eq_true_eq]
    omega
  refine ⟨K, k1, hF, ?_⟩
  unfold F_X10_addCard
  rw [hc, if_neg (nI_pos (by omega)), if_pos (show nI n < 6 from nI_lt (a := n) (b := 6) hn (by decide)), e]
  simp only [Option.bind_some]
  rw [osel_s rfl, if_pos hF, if_pos (inbN hn (by decide)), nI_clamp (by omega)]
  simp only [letb]
  have : mk4 (nI0 T I) (64 + T.1) (nI n) p2 p3 p4 w 1 = nI n := by
    unfold mk4
    rw [up2_oth _ _ _ (by omega), up2_oth _ _ _ (by omega), up2_oth _ _ _ (by omega), up2_oth _ _ _ (by omega)]
    unfold nI0
    rw [va_up_ne _ _ (by omega)]
    exact hc
  rw [this, nI_1]
theorem mk4_oth {c : Nat} {a b d e : Int32} {x : Nat} (h : x ≠ c) : mk4 I c a b d e x = I x := by
  unfold mk4
  rw [up2_oth _ _ _ h, up2_oth _ _ _ h, up2_oth _ _ _ h, up2_oth _ _ _ h]
theorem mk4_c {c : Nat} {a b d e : Int32} : mk4 I c a b d e c 0 = a ∧ mk4 I c a b d e c 1 = b ∧ mk4 I c a b d e c 2 = d ∧ mk4 I c a b d e c 3 = e := by
  unfold mk4
  simp [up2]
theorem like_1 {p1 p2 p3 p4 : Int32} : F_X12_isLike p1 p2 p3 p4 = 0 ∨ (F_X12_isLike p1 p2 p3 p4 = 1 ∧ F_X12_in p1 0 5 = 1 ∧ (1 ≤ p2.toInt ∧ p2.toInt ≤ 99) ∧ (1 ≤ p3.toInt ∧ p3.toInt ≤ 9) ∧ -4 ≤ p4.toInt ∧ p4.toInt ≤ 4) := by
  unfold F_X12_isLike
  rcases in0 p1 0 5 (a := 0) (b := 5) rfl rfl with ⟨g1, h1⟩ | ⟨g1, h1⟩
  · left; rw [g1]; rfl
  · rcases in0 p2 1 99 (a := 1) (b := 99) rfl rfl with ⟨g2, h2⟩ | ⟨g2, h2⟩
    · left; rw [g1, g2]; rfl
    · rcases in0 p3 1 9 (a := 1) (b := 9) rfl rfl with ⟨g3, h3⟩ | ⟨g3, h3⟩
      · left; rw [g1, g2, g3]; rfl
      · rcases in0 p4 (-4) 4 (a := -4) (b := 4) rfl rfl with ⟨g4, h4⟩ | ⟨g4, h4⟩
        · left; rw [g1, g2, g3, g4]; rfl
        · right; rw [g1, g2, g3, g4]; exact ⟨rfl, rfl, h2, h3, h4⟩
theorem like_x (p1 p2 p3 p4 : Int32) : F_X11_card T I J P p1 p2 p3 p4 = if F_X12_isLike p1 p2 p3 p4 = 0 then some ((-1), T, I, J, P) else ((F_X10_addCard T I J P 65 p1 p2 p3 p4).bind (fun x9 => (if x9.1 = 0 then (some ((-2), x9.2.1, x9.2.2.1, x9.2.2.2.1, x9.2.2.2.2)) else (some (((x9.2.2.1 65 1) - 1), x9.2.1, x9.2.2.1, x9.2.2.2.1, x9.2.2.2.2))))) := by
  unfold F_X11_card F_X12_isLike F_X12_in
  generalize ((F_X10_addCard T I J P 65 p1 p2 p3 p4).bind (fun x9 => (if x9.1 = 0 then (some ((-2), x9.2.1, x9.2.2.1, x9.2.2.2.1, x9.2.2.2.2)) else (some (((x9.2.2.1 65 1) - 1), x9.2.1, x9.2.2.1, x9.2.2.2.1, x9.2.2.2.2))))) = A
  have q2 : (99 < p2) ↔ ¬ p2 ≤ 99 := Int32.not_le.symm
  have q4 : (4 < p4) ↔ ¬ p4 ≤ 4 := Int32.not_le.symm
  by_cases a1 : p1 < 0
  · simp only [a1, if_true]
  · by_cases a2 : 5 < p1
    · simp only [a1, a2, if_true, if_false]
    · by_cases a3 : p2 < 1
      · simp only [a1, a2, a3, if_true, if_false, d10]
      · by_cases a4 : p2 ≤ 99
        · by_cases a5 : p3 < 1
          · simp only [a1, a2, a3, a4, a5, q2, not_true, if_true, if_false, d10]
          · by_cases a6 : 9 < p3
            · simp only [a1, a2, a3, a4, a5, a6, q2, not_true, if_true, if_false, d10]
            · by_cases a7 : p4 < -4
              · simp only [a1, a2, a3, a4, a5, a6, a7, q2, not_true, if_true, if_false, d10]
              · by_cases a8 : p4 ≤ 4
                · simp only [a1, a2, a3, a4, a5, a6, a7, a8, q2, q4, not_true, if_true, if_false, d10]
                · simp only [a1, a2, a3, a4, a5, a6, a7, a8, q2, q4, not_true, not_false_eq_true, if_true, if_false, d10]
        · simp only [a1, a2, a3, a4, q2, not_false_eq_true, if_true, if_false, d10]
end
