/-! toss -/
section
variable {s : Nat} {T : TM} {I I' : IM} {J : JM} {P : PM}
theorem Sc.up (h : Sc I I') (a k : Nat) (v : Int32) : Sc (up2 I a k v) (up2 I' a k v) := ⟨fun x h1 h2 => by
  funext j
  simp only [up2, h.1 x h1 h2], fun i hi => by simp only [up2, h.2 i hi]⟩
def zN (z : Int32) : Int32 := z * 1103515245 + 12345
def wN (z : Int32) : Int32 := (Int32.toUInt32 z >>> (Int32.toUInt32 16 &&& Int32.toUInt32 31)).toInt32
def pkF (z a : Int32) : Int32 := wN z - wN z / a * a
theorem u_toInt {u : UInt32} (h : u.toNat < 65536) : (u.toInt32).toInt = (u.toNat : Int) := BitVec.toInt_eq_toNat_of_lt (x := u.toBitVec) (by
  have : u.toBitVec.toNat = u.toNat := rfl
  omega)
theorem wN_bd (z : Int32) : 0 ≤ (wN z).toInt ∧ (wN z).toInt < 65536 := by
  have e : (Int32.toUInt32 16 &&& Int32.toUInt32 31 : UInt32) = 16 := by decide
  have h : (Int32.toUInt32 z >>> (16 : UInt32)).toNat < 65536 := by
    rw [UInt32.toNat_shiftRight, show (16 : UInt32).toNat % 32 = 16 from rfl, Nat.shiftRight_eq_div_pow]
    have := (Int32.toUInt32 z).toNat_lt
    omega
  unfold wN
  rw [e, u_toInt h]
  omega
theorem pk_bd {w a : Int32} (h1 : 0 ≤ w.toInt) (h2 : w.toInt < 65536) (a1 : 1 ≤ a.toInt) (a2 : a.toInt ≤ 45) : 0 ≤ (w - w / a * a).toInt ∧ (w - w / a * a).toInt < a.toInt := by
  have e1 : (w / a).toInt = w.toInt / a.toInt := by
    have q1 := Int.ediv_nonneg h1 (show 0 ≤ a.toInt by omega)
    have q2 := Int.ediv_le_self a.toInt h1
    rw [Int32.toInt_div, Int.tdiv_eq_ediv_of_nonneg h1]
    exact Int.bmod_eq_of_le (by omega) (by omega)
  have d := Int.mul_ediv_add_emod w.toInt a.toInt
  have m1 := Int.emod_nonneg w.toInt (show a.toInt ≠ 0 by omega)
  have m2 := Int.emod_lt_of_pos w.toInt (show 0 < a.toInt by omega)
  generalize w.toInt % a.toInt = rr at *
  have e2 : (w / a * a).toInt = w.toInt - rr := by
    rw [Int32.toInt_mul, e1, Int.mul_comm, show a.toInt * (w.toInt / a.toInt) = w.toInt - rr by omega, Int.bmod_eq_of_le (by omega) (by omega)]
  rw [Int32.toInt_sub, e2, Int.bmod_eq_of_le (by omega) (by omega)]
  omega
def remS (H : Nat → Int32) : Nat → Nat → Int
  | _, 0 => 0
  | i, m + 1 => (H i).toInt + remS H (i + 1) m
theorem b_handL {N : Nat} {I I2 : IM} {u1 u2 u3 u4 pick : Int32} (hH : ∀ j, j < 5 → I 68 j = I2 104 j ∧ 0 ≤ (I 68 j).toInt ∧ (I 68 j).toInt ≤ 9) : ∀ (m i : Nat) (tog left : Int32), i + m = 5 → 0 ≤ tog.toInt → tog.toInt + 9 * m ≤ 45 → left.toInt = pick.toInt - tog.toInt → tog.toInt ≤ pick.toInt → pick.toInt < tog.toInt + remS (I 68) i m → pick.toInt < 45 → ∀ f g, m < f → m < g → ∃ i', i' < 5 ∧ G_X11_handAt_4 N I pick f tog (nI i) = some (nI i') ∧ G_X12_toss_49 N I2 u1 u2 u3 u4 g left (nI i) = ((F_X12_falls N I2 u1 u2 (((u3 + nI i') + 34) - ((u3 + nI i') + 34) / 36 * 36) u4).bind (fun x9 => (if x9.1 = 0 then (some ((-2147483648), x9.2)) else (some ((F_X12_squareOf x9.2), x9.2))))) := by
  intro m
  induction m with
  | zero =>
    intro i tog left hi h0 h1 h2 h3 h4 h5 f g hf hg
    exact absurd h4 (by show ¬ pick.toInt < tog.toInt + 0; omega)
  | succ m ih =>
    intro i tog left hi h0 h1 h2 h3 h4 h5 f g hf hg
    obtain ⟨f, rfl⟩ : ∃ z, f = z + 1 := ⟨f - 1, by omega⟩
    obtain ⟨g, rfl⟩ : ∃ z, g = z + 1 := ⟨g - 1, by omega⟩
    obtain ⟨q1, q2, q3⟩ := hH i (by omega)
    have h4' : pick.toInt < tog.toInt + ((I 68 i).toInt + remS (I 68) (i + 1) m) := h4
    have ey : (tog + I 68 i).toInt = tog.toInt + (I 68 i).toInt := by rw [Int32.toInt_add, Int.bmod_eq_of_le (by omega) (by omega)]
    have ib : inb (nI i) 5 = true := inbN (by omega) (by decide)
    rw [G_X11_handAt_4, if_neg (lt5n (by omega)), if_pos ib, G_X12_toss_49, if_pos ib, nI_clamp (by omega), ← q1]
    simp only [letb]
    by_cases d : tog.toInt + (I 68 i).toInt ≤ pick.toInt
    · have d1 : tog + I 68 i ≤ pick := by rw [Int32.le_iff_toInt_le, ey]; exact d
      have d2 : ¬ left < I 68 i := by rw [Int32.lt_iff_toInt_lt]; omega
      have el : (left - I 68 i).toInt = left.toInt - (I 68 i).toInt := by rw [Int32.toInt_sub, Int.bmod_eq_of_le (by omega) (by omega)]
      rw [if_pos d1, if_neg d2, if_pos ib, nI_1]
      exact ih (i + 1) _ _ (by omega) (by omega) (by omega) (by omega) (by omega) (by omega) h5 f g (by omega) (by omega)
    · have d1 : ¬ tog + I 68 i ≤ pick := by rw [Int32.le_iff_toInt_le, ey]; exact d
      have d2 : left < I 68 i := by rw [Int32.lt_iff_toInt_lt]; omega
      rw [if_neg d1, if_pos d2]
      exact ⟨i, by omega, rfl, rfl⟩
theorem z_set (r : Rel s T I J P) (p : Int32) : Rel s T (up2 (up2 I 65 5 p) 101 5 p) J P := by
  obtain ⟨n, hC, hz, hL, hH, hA⟩ := r.now
  have f : Fr [65] [] [] [5] [] I (up2 (up2 I 65 5 p) 101 5 p) J J P P := ⟨fun x hx h2 _ => by
      simp only [List.mem_cons, List.not_mem_nil, or_false] at hx
      rw [up2_oth _ _ _ h2, up2_oth _ _ _ hx], fun j hj => by
      simp only [List.mem_cons, List.not_mem_nil, or_false] at hj
      simp [up2, hj], fun j _ => rfl, fun _ _ => rfl, fun _ _ => rfl⟩
  refine ⟨r.t60, fr_sin r.sin f (by decide), fr_shp r.shp f (by decide), ?_, fr_kept r.kept f (by decide), fr_tape r.tape f (by decide), fr_rows r.rows f (by decide), fr_sh r.sh f (by decide), fr_shf r.shf f (by decide), fr_tr r.tr f (by decide)⟩
  exact ⟨n, CR.fr hC (f.cells (by decide)), rfl, hL, hH, hA⟩
theorem q_toss {N : Nat} (hN : 400 < N) (r : Rel s T I J P) (p1 p2 p3 p4 : Int32) : ∃ v I1 I2 P1, F_X11_toss N T I P p1 p2 p3 p4 = some (v, I1, P1) ∧ F_X12_toss N I1 p1 p2 p3 p4 = some (v, I2) ∧ Rel s T I2 J P1 := by
  obtain ⟨n, hC, hz, hL, hH, hA⟩ := r.now
  have h6 := hC.1
  obtain ⟨eS, s1, s2⟩ := hH.sum5
  have hsum := hH.sum
  have n1 : ¬ sumF (I 68) 0 5 0 < 1 := by rw [Int32.lt_iff_toInt_lt]; simp only [Int32.reduceToInt]; omega
  have n0 : ¬ sumF (I 68) 0 5 0 = 0 := fun e => by rw [e] at s1; revert s1; decide
  rcases b_begin hC (a := 89) (by decide) p1 p2 p3 p4 with ⟨g1, g2⟩ | ⟨g1, j, k, c, Ib, hj, hp, hk, hs, ht, hc, hr, e2, f1, f2, q⟩
  · refine ⟨-2147483648, I, I, P, ?_, ?_, r⟩
    · unfold F_X11_toss
      rw [x_sum (by omega)]
      simp only [Option.bind_some]
      rw [if_neg n1, g2]
      rfl
    · unfold F_X12_toss; rw [g1]; rfl
  · subst hp
    subst hs
    have hlg := (isFall_1 g1).2
    have sc0 : Sc I Ib := Sc.of1 (a := 89) (by decide) (by decide) f1
    have ez : Ib 65 5 = I 65 5 := by rw [f1 65 (by decide)]
    obtain ⟨k1, k2⟩ := pk_bd (wN_bd (zN (I 65 5))).1 (wN_bd (zN (I 65 5))).2 s1 s2
    have hC0 : CR T Ib ((up2 P 89 0 (some c)) 66) (Ib 65 1) (Ib 101 0) (Ib 102) n := hC.sc sc0 Ps.s89
    have hC1 : CR T (up2 Ib 65 5 (zN (I 65 5))) ((up2 P 89 0 (some c)) 66) ((up2 Ib 65 5 (zN (I 65 5))) 65 1) ((up2 Ib 65 5 (zN (I 65 5))) 101 0) ((up2 Ib 65 5 (zN (I 65 5))) 102) n := CR.fr hC0 (fun x hx _ => up2_oth Ib 5 _ (show x ≠ 65 by omega))
    have ex : F_X11_toss N T I P (nI j) p2 (nI k) p4 = ((F_X11_handAt N (up2 Ib 65 5 (zN (I 65 5))) (pkF (zN (I 65 5)) (sumF (I 68) 0 5 0))).bind (fun x7 => ((F_X11_byHand (nI k) x7).bind (fun x8 => ((F_X11_landsOn N T (up2 Ib 65 5 (zN (I 65 5))) (up2 P 89 0 (some c)) (nI j) p2 x8 p4).bind (fun x9 => (some (x9.1, x9.2.1, x9.2.2)))))))) := by
      unfold F_X11_toss
      rw [x_sum (by omega)]
      simp only [Option.bind_some]
      rw [if_neg n1, e2]
      simp only [Option.bind_some, letb]
      rw [if_neg (by decide), if_pos n0, up2_s, ez]
      rfl
    have hH1 : ∀ (Im : IM), Im 104 = I 104 → ∀ j, j < 5 → (up2 Ib 65 5 (zN (I 65 5))) 68 j = Im 104 j ∧ 0 ≤ ((up2 Ib 65 5 (zN (I 65 5))) 68 j).toInt ∧ ((up2 Ib 65 5 (zN (I 65 5))) 68 j).toInt ≤ 9 := fun Im hIm j hj => by
      rw [up2_oth _ _ _ (by decide), f1 68 (by decide), hIm]
      exact hH.1 j hj
    have hrem : remS ((up2 Ib 65 5 (zN (I 65 5))) 68) 0 5 = (sumF (I 68) 0 5 0).toInt := by
      rw [up2_oth _ _ _ (by decide), f1 68 (by decide), eS]
      show (I 68 0).toInt + ((I 68 1).toInt + ((I 68 2).toInt + ((I 68 3).toInt + ((I 68 4).toInt + 0)))) = _
      omega
    have z0 : (0 : Int32).toInt = 0 := rfl
    have hbd : 0 ≤ (pkF (zN (I 65 5)) (sumF (I 68) 0 5 0)).toInt ∧ (pkF (zN (I 65 5)) (sumF (I 68) 0 5 0)).toInt < (sumF (I 68) 0 5 0).toInt := ⟨k1, k2⟩
    generalize hpkd : pkF (zN (I 65 5)) (sumF (I 68) 0 5 0) = pk at ex hbd
    obtain ⟨b1, k3⟩ := hbd
    have hpk : pk.toInt < (0 : Int32).toInt + remS ((up2 Ib 65 5 (zN (I 65 5))) 68) 0 5 := by
      rw [hrem, z0, Int.zero_add]
      exact k3
    have b2 : pk.toInt < 45 := Int.lt_of_lt_of_le k3 s2
    have hl0 : pk.toInt = pk.toInt - (0 : Int32).toInt := by
      rw [z0, Int.sub_zero]
    obtain ⟨i', hi', eh, -⟩ := b_handL (N := N) (I := up2 Ib 65 5 (zN (I 65 5))) (I2 := I) (u1 := 0) (u2 := 0) (u3 := 0) (u4 := 0) (hH1 I rfl) 5 0 0 _ rfl (by decide) (by decide) hl0 b1 hpk b2 N N (by omega) (by omega)
    have hk2 : (k + i' + 34) % 36 < 36 := Nat.mod_lt _ (by decide)
    obtain ⟨I1, P1, el, sc1, ps1, -⟩ := x_landsS hN hC1 hj hk2 (letgo_k hk2 hlg)
    have sc1' : Sc (up2 I 65 5 (zN (I 65 5))) I1 := (sc0.up 65 5 _).tr sc1
    have i101 : I1 101 5 = I 65 5 := by rw [sc1'.2 5 (by decide), hz]; rfl
    have sc2 : Sc (up2 (up2 I 65 5 (zN (I 65 5))) 101 5 (zN (I 65 5))) (up2 I1 101 5 (zN (I 65 5))) := sc1'.up 101 5 _
    have e104 : (up2 I1 101 5 (zN (I 65 5))) 104 = I 104 := by rw [up2_oth _ _ _ (by decide), sc1'.1 104 (by decide) (by decide), up2_oth _ _ _ (by decide)]
    obtain ⟨i2, hi2, eh2, em⟩ := b_handL (N := N) (I := up2 Ib 65 5 (zN (I 65 5))) (I2 := up2 I1 101 5 (zN (I 65 5))) (u1 := nI j) (u2 := p2) (u3 := nI k) (u4 := p4) (hH1 _ e104) 5 0 0 _ rfl (by decide) (by decide) hl0 b1 hpk b2 N N (by omega) (by omega)
    obtain rfl : i' = i2 := by
      rw [eh] at eh2
      exact (nI_eq (by omega) (by omega)).mp (Option.some.inj eh2)
    have e102 : (up2 I1 101 5 (zN (I 65 5))) 102 = I 102 := by rw [up2_oth _ _ _ (by decide), sc1'.1 102 (by decide) (by decide), up2_oth _ _ _ (by decide)]
    have e103 : (up2 I1 101 5 (zN (I 65 5))) 103 = I 103 := by rw [up2_oth _ _ _ (by decide), sc1'.1 103 (by decide) (by decide), up2_oth _ _ _ (by decide)]
    have e105 : (up2 I1 101 5 (zN (I 65 5))) 105 = I 105 := by rw [up2_oth _ _ _ (by decide), sc1'.1 105 (by decide) (by decide), up2_oth _ _ _ (by decide)]
    obtain ⟨I2, e4, sc3, q1⟩ := m_fallsS hN (I := up2 I1 101 5 (zN (I 65 5))) (j := j) (h := p2) (t := p4) (by rw [e105]; exact r.sin) (by omega) (by rw [e102]; exact hr.wd0.2) hk2 ht
    rw [e102, e103] at e4 q1
    have x102 : (up2 Ib 65 5 (zN (I 65 5))) 102 = I 102 := by rw [up2_oth _ _ _ (by decide), f1 102 (by decide)]
    have x67 : (up2 Ib 65 5 (zN (I 65 5))) 67 = I 67 := by rw [up2_oth _ _ _ (by decide), f1 67 (by decide)]
    rw [x102, x67, FR_L hL] at el
    refine ⟨lnd (FR (I 102) (I 103) (I 102 (4 * j + 1)) j p2 (nI ((k + i' + 34) % 36)) p4), I1, I2, P1, ?_, ?_, (z_set r _).sc (sc2.tr sc3) (Ps.s89.tr ps1)⟩
    · rw [ex]
      unfold F_X11_handAt
      rw [show (0 : Int32) = nI 0 from rfl] at eh ⊢
      rw [eh]
      simp only [Option.bind_some]
      rw [(hand36 k hk i' hi').1]
      simp only [Option.bind_some]
      rw [el]
      rfl
    · have gf : F_X12_isFall I1 (nI j) p2 (nI k) p4 = 1 := by
        rw [← g1]
        unfold F_X12_isFall F_X12_isCard
        rw [sc1'.2 0 (by decide)]
        rfl
      unfold F_X12_toss
      rw [gf, if_neg (by decide), i101]
      simp only [letb]
      rw [show I 65 5 * 1103515245 + 12345 = zN (I 65 5) from rfl, m_sum (by omega), e104, ← hsum]
      simp only [Option.bind_some]
      rw [if_pos n0, up2_s]
      show G_X12_toss_49 N _ (nI j) p2 (nI k) p4 N (pkF (zN (I 65 5)) (sumF (I 68) 0 5 0)) (nI 0) = _
      rw [hpkd]
      rw [em, (hand36 k hk i' hi').2, e4]
      simp only [Option.bind_some]
      by_cases h4 : 0 < FR (I 102) (I 103) (I 102 (4 * j + 1)) j p2 (nI ((k + i' + 34) % 36)) p4 4
      · have hg : lnd (FR (I 102) (I 103) (I 102 (4 * j + 1)) j p2 (nI ((k + i' + 34) % 36)) p4) = -2147483648 := if_pos h4
        rw [if_pos h4, if_pos rfl, hg]
      · have hg : lnd (FR (I 102) (I 103) (I 102 (4 * j + 1)) j p2 (nI ((k + i' + 34) % 36)) p4) = sq (FR (I 102) (I 103) (I 102 (4 * j + 1)) j p2 (nI ((k + i' + 34) % 36)) p4 3) := if_neg h4
        rw [if_neg h4, if_neg (by decide), m_square q1, hg]
end
