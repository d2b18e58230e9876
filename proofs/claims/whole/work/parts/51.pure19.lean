/-! shelves -/
section
variable {s : Nat} {T : TM} {I I' : IM} {J : JM} {P : PM}
def lay3 (I : IM) (q : Nat) (a b c : Int32) : IM := up2 (up2 (up2 I 85 q a) 86 q b) 87 q c
def lay3m (I : IM) (q : Nat) (a b c : Int32) : IM := up2 (up2 (up2 I 118 q a) 119 q b) 120 q c
theorem shf_up (r : Rel s T I J P) {q : Nat} {a b c a' b' c' : Int32} (h : SF a b c a' b' c') : Rel s T (lay3m (lay3 I q a b c) q a' b' c') J P := by
  have f : Fr [85, 86, 87, 118, 119, 120] [] [] [] [] I (lay3m (lay3 I q a b c) q a' b' c') J J P P := ⟨fun x hx _ _ => by
    simp only [List.mem_cons, List.not_mem_nil, or_false, not_or] at hx
    unfold lay3m lay3
    rw [up2_oth _ _ _ hx.2.2.2.2.2, up2_oth _ _ _ hx.2.2.2.2.1, up2_oth _ _ _ hx.2.2.2.1, up2_oth _ _ _ hx.2.2.1, up2_oth _ _ _ hx.2.1, up2_oth _ _ _ hx.1], fun _ _ => rfl, fun _ _ => rfl, fun _ _ => rfl, fun _ _ => rfl⟩
  refine ⟨r.t60, fr_sin r.sin f (by decide), fr_shp r.shp f (by decide), fr_now r.now f (by decide), fr_kept r.kept f (by decide), fr_tape r.tape f (by decide), fr_rows r.rows f (by decide), fr_sh r.sh f (by decide), ?_, fr_tr r.tr f (by decide)⟩
  intro q' hq'
  by_cases e : q' = q
  · subst e
    have e1 : lay3m (lay3 I q' a b c) q' a' b' c' 85 q' = a := by simp [lay3m, lay3, up2]
    have e2 : lay3m (lay3 I q' a b c) q' a' b' c' 86 q' = b := by simp [lay3m, lay3, up2]
    have e3 : lay3m (lay3 I q' a b c) q' a' b' c' 87 q' = c := by simp [lay3m, lay3, up2]
    have e4 : lay3m (lay3 I q' a b c) q' a' b' c' 118 q' = a' := by simp [lay3m, lay3, up2]
    have e5 : lay3m (lay3 I q' a b c) q' a' b' c' 119 q' = b' := by simp [lay3m, lay3, up2]
    have e6 : lay3m (lay3 I q' a b c) q' a' b' c' 120 q' = c' := by simp [lay3m, lay3, up2]
    rw [e1, e2, e3, e4, e5, e6]
    exact h
  · have e0 : ∀ x, lay3m (lay3 I q a b c) q a' b' c' x q' = I x q' := fun x => by simp [lay3m, lay3, up2, e]
    rw [e0, e0, e0, e0, e0, e0]
    exact r.shf q' hq'
theorem x_lay {q : Nat} (hq : q < 4) (a b c : Int32) : F_X11_lay I (nI q) a b c = some (1, lay3 I q a b c) := by
  unfold F_X11_lay
  simp only [inb4 hq, clamp4 hq, if_true, letb]
  rfl
theorem q_shelf (r : Rel s T I J P) (p1 p2 p3 : Int32) : ∃ v I1 I2, F_X11_shelf I P p1 p2 p3 = some (v, I1) ∧ F_X12_shelf I1 p1 p2 p3 = some (v, I2) ∧ Rel s T I2 J P := by
  obtain ⟨n, hC, hz, hL, hH, hA⟩ := r.now
  rcases shelf_01 p1 with g | ⟨g, q, hq, rfl⟩
  · refine ⟨-1, I, I, ?_, ?_, r⟩
    · unfold F_X11_shelf; rw [shelf_eq, g]; rfl
    · unfold F_X12_shelf; rw [g]; rfl
  · by_cases a0 : p2 = 0
    · subst a0
      rcases card_cases hC p3 with ⟨e1, e2⟩ | ⟨e1, j, c, hj, hp, hc, hr, e2⟩
      · refine ⟨-1, I, I, ?_, ?_, r⟩
        · unfold F_X11_shelf; rw [shelf_eq, g, e2]; rfl
        · unfold F_X12_shelf F_X12_isHeld; rw [g, e1]; rfl
      · refine ⟨1, lay3 I q 1 p3 0, lay3m (lay3 I q 1 p3 0) q 0 p3 0, ?_, ?_, shf_up r (Or.inr (Or.inl ⟨rfl, rfl, rfl⟩))⟩
        · unfold F_X11_shelf
          rw [shelf_eq, g, e2, if_neg n10, if_pos rfl]
          simp only [Option.bind_some]
          rw [osel_s rfl, x_lay hq]
          rfl
        · have e3 : F_X12_isCard (lay3 I q 1 p3 0) p3 = 1 := e1
          unfold F_X12_shelf F_X12_isHeld
          rw [g, if_pos rfl, e3]
          simp only [d02, d01, d10, if_false, inb4 hq, clamp4 hq, if_true, letb]
          rfl
    · by_cases a1 : p2 = 1
      · subst a1
        rcases sheet_cases r.shp p3 with ⟨g3, e⟩ | ⟨g3, w, hw, rfl, e⟩
        · refine ⟨-1, I, I, ?_, ?_, r⟩
          · unfold F_X11_shelf; rw [shelf_eq, g, e]; rfl
          · unfold F_X12_shelf F_X12_isHeld; rw [g, g3]; rfl
        · obtain ⟨h1, h2, ⟨m, hm, h3, h4⟩, h5⟩ := r.sh w hw
          have ex : F_X11_shelf I P (nI q) 1 (nI w) = F_X11_layRow I (nI q) (some (93 + 2 * w)) := by
            unfold F_X11_shelf
            rw [shelf_eq, g, e, if_neg (by decide), if_neg n10, if_pos rfl]
            simp only [Option.bind_some]
            rw [osel_s rfl, if_pos (isSb_q hw)]
            exact bind_some_self _
          have em : ∀ I1 : IM, F_X12_shelf I1 (nI q) 1 (nI w) = some (1, up2 (up2 (up2 I1 118 q (if 0 ≤ I1 115 w then 1 else (-1))) 119 q (I1 115 w)) 120 q (I1 116 w)) := by
            intro I1
            unfold F_X12_shelf F_X12_isHeld
            rw [g, g3]
            simp only [d12, d10, if_false, inb4 hq, clamp4 hq, inb4 hw, clamp4 hw, if_true, letb]
            rfl
          rcases so_cases h1 with ⟨b1, b2⟩ | ⟨b1, b2⟩
          · refine ⟨1, lay3 I q 0 0 0, lay3m (lay3 I q 0 0 0) q (-1) (I 115 w) (I 116 w), ?_, ?_, shf_up r (Or.inl ⟨rfl, rfl⟩)⟩
            · rw [ex]
              unfold F_X11_layRow
              rw [osel_s rfl, h2, if_pos b1, x_lay hq]
              rfl
            · rw [em, show (lay3 I q 0 0 0) 115 = I 115 from rfl, show (lay3 I q 0 0 0) 116 = I 116 from rfl, if_neg b2]
              rfl
          · refine ⟨1, lay3 I q 2 (I 115 w) (nI m), lay3m (lay3 I q 2 (I 115 w) (nI m)) q 1 (I 115 w) (I 116 w), ?_, ?_, shf_up r (Or.inr (Or.inr ⟨rfl, rfl, rfl, h3.symm⟩))⟩
            · rw [ex]
              unfold F_X11_layRow
              rw [osel_s rfl, h2, if_neg b1, h4, x_lay hq]
              rfl
            · rw [em, show (lay3 I q 2 (I 115 w) (nI m)) 115 = I 115 from rfl, show (lay3 I q 2 (I 115 w) (nI m)) 116 = I 116 from rfl, if_pos b2]
              rfl
      · by_cases a2 : p2 = 2
        · subst a2
          refine ⟨1, lay3 I q 0 0 0, lay3m (lay3 I q 0 0 0) q (-1) p3 0, ?_, ?_, shf_up r (Or.inl ⟨rfl, rfl⟩)⟩
          · unfold F_X11_shelf
            rw [shelf_eq, g, if_neg (by decide), if_neg (by decide), if_neg (by decide), if_pos rfl, x_lay hq]
            rfl
          · unfold F_X12_shelf F_X12_isHeld
            rw [g]
            simp only [d20, d21, d10, if_false, inb4 hq, clamp4 hq, if_true, letb]
            rfl
        · refine ⟨-1, I, I, ?_, ?_, r⟩
          · unfold F_X11_shelf
            rw [shelf_eq, g, if_neg (by decide), if_neg a0, if_neg a1, if_neg a2]
          · unfold F_X12_shelf F_X12_isHeld
            rw [g, if_neg (by decide), if_neg a0, if_neg a1, if_neg a2, if_pos rfl]
/-- what lies on a shelf, as both see it -/
theorem on_cases (r : Rel s T I J P) {n : Nat} (hC : CR T I (P 66) (I 65 1) (I 101 0) (I 102) n) {q : Nat} (hq : q < 4) : (I 85 q = 2 ∧ F_X11_thingOn I P (nI q) = some none ∧ F_X12_kindOn I (nI q) = some 9 ∧ I 86 q = I 119 q ∧ I 87 q = I 120 q) ∨ (¬ I 85 q = 2 ∧ ((F_X11_thingOn I P (nI q) = some none ∧ F_X12_kindOn I (nI q) = some (-1)) ∨ ∃ j c, j < n ∧ I 119 q = nI j ∧ CardR T I c j (I 102 (4 * j)) (I 102 (4 * j + 1)) (I 102 (4 * j + 2)) (I 102 (4 * j + 3)) ∧ F_X11_thingOn I P (nI q) = some (some c) ∧ F_X12_kindOn I (nI q) = some (I 102 (4 * j)))) := by
  have h6 := hC.1
  have ex : F_X11_thingOn I P (nI q) = if I 85 q = 1 then ((F_X10_cardAt I P 65 (I 86 q)).bind (fun x5 => (osel x5 (some none) (fun c6 => (some (some c6)))))) else some none := by
    unfold F_X11_thingOn
    rw [shelf_eq, shelf_1 hq]
    simp only [inb4 hq, clamp4 hq, if_true, d10, if_false]
  have em : F_X12_kindOn I (nI q) = if I 118 q = 0 then (if (F_X12_isCard I (I 119 q)) = 0 then (some (-1)) else ((F_X12_its I (I 119 q) 0).bind (fun x6 => (some x6)))) else (if 0 ≤ I 118 q then some 9 else some (-1)) := by
    unfold F_X12_kindOn
    simp only [inb4 hq, clamp4 hq, if_true]
  rw [ex, em]
  rcases r.shf q hq with ⟨a1, a2⟩ | ⟨a1, a2, a3⟩ | ⟨a1, a2, a3, a4⟩
  · right
    rw [a1, a2]
    exact ⟨by decide, Or.inl ⟨rfl, rfl⟩⟩
  · right
    rw [a1, a2, a3]
    refine ⟨by decide, ?_⟩
    rcases card_cases hC (I 119 q) with ⟨e1, e2⟩ | ⟨e1, j, c, hj, hp, hc, hr, e2⟩
    · left
      rw [e1, e2]
      exact ⟨rfl, rfl⟩
    · right
      refine ⟨j, c, hj, hp, hr, ?_, ?_⟩
      · rw [e2]; rfl
      · rw [e1, hp, m_its0 (by omega)]; rfl
  · left
    rw [a1, a2]
    exact ⟨rfl, rfl, rfl, a3, a4⟩
theorem kd_bd {K : Nat} {kd : Int32} (h : kmapR K kd) : 0 ≤ kd ∧ ¬ kd = 9 ∧ F_X12_in kd 0 5 = 1 := by
  rcases h with ⟨-, rfl⟩ | ⟨-, rfl⟩ | ⟨-, rfl⟩ | ⟨-, rfl⟩ | ⟨-, rfl⟩ | ⟨-, rfl⟩ <;> decide
theorem under_eq {c : Nat} {kd p : Int32} (h : kmapR (T.2.1 c) kd) (hp : 0 ≤ p.toInt ∧ p.toInt ≤ 5) : F_X11_isOfKind T c p = F_X12_isUnder kd p := by
  have : p.toInt = (0 : Nat) ∨ p.toInt = (1 : Nat) ∨ p.toInt = (2 : Nat) ∨ p.toInt = (3 : Nat) ∨ p.toInt = (4 : Nat) ∨ p.toInt = (5 : Nat) := by omega
  unfold F_X11_isOfKind
  rcases h with ⟨h, rfl⟩ | ⟨h, rfl⟩ | ⟨h, rfl⟩ | ⟨h, rfl⟩ | ⟨h, rfl⟩ | ⟨h, rfl⟩ <;> rw [h] <;> rcases this with e | e | e | e | e | e <;> rw [nat_eq e] <;> decide
theorem as_eq (a p : Int32) : (a = p - 10) ↔ (p = 10 + a) := by
  rw [eq_comm, Int32.sub_eq_iff_eq_add, Int32.add_comm]
theorem q_taken (r : Rel s T I J P) (p1 p2 : Int32) : ∃ v, F_X11_taken T I P p1 p2 = some v ∧ F_X12_taken I p1 p2 = some v := by
  obtain ⟨n, hC, hz, hL, hH, hA⟩ := r.now
  have h6 := hC.1
  rcases shelf_01 p1 with g | ⟨g, q, hq, rfl⟩
  · refine ⟨-1, ?_, ?_⟩
    · unfold F_X11_taken
      simp only [letb]
      rw [shelf_eq, g, if_pos rfl]
    · unfold F_X12_taken; rw [g]; rfl
  · have key : ∀ y : Int32, ((y = 1 ∧ 0 ≤ p2.toInt ∧ p2.toInt ≤ 5) ∨ (y = 0 ∧ 10 ≤ p2.toInt ∧ p2.toInt ≤ 13)) → ∃ v, (if (I 85 q) = 2 then (if (I 86 q) = (p2 - 10) then some (I 87 q) else (some (-13))) else ((F_X11_thingOn I P (nI q)).bind (fun x23 => (osel x23 (some (-11)) (fun c24 => (if y = 0 then (some (-13)) else (if isF T c24 = true then (if (F_X11_isOfKind T c24 p2) = 0 then (some (-13)) else (some (I c24 0))) else none))))))) = some v ∧ ((F_X12_kindOn I (nI q)).bind (fun x13 => (if 0 ≤ x13 then (if x13 = 9 then (if p2 = (10 + (I 119 q)) then some (I 120 q) else (some (-13))) else (if 10 ≤ p2 then (some (-13)) else (if (F_X12_isUnder x13 p2) = 0 then (some (-13)) else some (I 119 q)))) else (some (-11))))) = some v := by
      intro y hy
      rcases on_cases r hC hq with ⟨b1, b2, b3, b4, b5⟩ | ⟨b1, ⟨b2, b3⟩ | ⟨j, c, hj, hp, hr, b2, b3⟩⟩
      · rw [if_pos b1, b3, b4, b5]
        by_cases e : I 119 q = p2 - 10
        · exact ⟨I 120 q, by rw [if_pos e], by
            simp only [Option.bind_some]
            rw [if_pos (by decide), if_pos trivial, if_pos ((as_eq _ _).mp e)]⟩
        · exact ⟨-13, by rw [if_neg e], by
            simp only [Option.bind_some]
            rw [if_pos (by decide), if_pos trivial, if_neg (fun z => e ((as_eq _ _).mpr z))]⟩
      · rw [if_neg b1, b2, b3]
        exact ⟨-11, rfl, rfl⟩
      · obtain ⟨k1, k2, -⟩ := kd_bd hr.2.2.1
        rw [if_neg b1, b2, b3]
        simp only [Option.bind_some]
        rw [osel_s rfl, if_pos k1, if_neg k2]
        rcases hy with ⟨rfl, hy⟩ | ⟨rfl, hy⟩
        · have t10 : ¬ (10 : Int32) ≤ p2 := by rw [Int32.le_iff_toInt_le]; simp only [Int32.reduceToInt]; omega
          rw [if_neg (by decide), if_pos hr.2.1, if_neg t10, under_eq hr.2.2.1 hy, hr.2.2.2.1, hp]
          by_cases e : F_X12_isUnder (I 102 (4 * j)) p2 = 0
          · rw [if_pos e]; exact ⟨_, rfl, rfl⟩
          · rw [if_neg e]; exact ⟨_, rfl, rfl⟩
        · have t10 : (10 : Int32) ≤ p2 := by rw [Int32.le_iff_toInt_le]; simp only [Int32.reduceToInt]; omega
          rw [if_pos rfl, if_pos t10]
          exact ⟨_, rfl, rfl⟩
    have ex : F_X11_taken T I P (nI q) p2 = (letb (if p2 < 0 then 0 else (if 5 < p2 then 0 else 1)) (fun y3 : Int32 => (letb (if p2 < 10 then 0 else (if 13 < p2 then 0 else 1)) (fun y6 : Int32 => (if y3 = 0 ∧ y6 = 0 then (some (-1)) else (if (I 85 q) = 2 then (if (I 86 q) = (p2 - 10) then some (I 87 q) else (some (-13))) else ((F_X11_thingOn I P (nI q)).bind (fun x23 => (osel x23 (some (-11)) (fun c24 => (if y3 = 0 then (some (-13)) else (if isF T c24 = true then (if (F_X11_isOfKind T c24 p2) = 0 then (some (-13)) else (some (I c24 0))) else none))))))))))) ) := by
      unfold F_X11_taken
      simp only [letb]
      rw [shelf_eq, g]
      simp only [inb4 hq, clamp4 hq, if_true, d10, if_false]
      generalize (if p2 < 0 then (0 : Int32) else (if 5 < p2 then 0 else 1)) = y3
      generalize (if p2 < 10 then (0 : Int32) else (if 13 < p2 then 0 else 1)) = y6
      by_cases c1 : y3 = 0
      · by_cases c2 : y6 = 0
        · simp only [c1, c2, if_true, and_self]
        · simp only [c1, c2, if_true, if_false, and_false]
      · simp only [c1, if_false, false_and]
    have em : F_X12_taken I (nI q) p2 = if F_X12_in p2 0 5 = 0 ∧ F_X12_in p2 10 13 = 0 then some (-1) else ((F_X12_kindOn I (nI q)).bind (fun x13 => (if 0 ≤ x13 then (if x13 = 9 then (if p2 = (10 + (I 119 q)) then some (I 120 q) else (some (-13))) else (if 10 ≤ p2 then (some (-13)) else (if (F_X12_isUnder x13 p2) = 0 then (some (-13)) else some (I 119 q)))) else (some (-11))))) := by
      unfold F_X12_taken
      rw [g]
      simp only [inb4 hq, clamp4 hq, if_true, d10, if_false]
      by_cases c1 : F_X12_in p2 0 5 = 0
      · by_cases c2 : F_X12_in p2 10 13 = 0
        · simp only [c1, c2, if_true, and_self]
        · simp only [c1, c2, if_true, if_false, and_false]
      · simp only [c1, if_false, false_and]
    rw [ex, em]
    simp only [letb, Int32.lt_iff_toInt_lt, Int32.reduceToInt]
    rcases in0 p2 0 5 (a := 0) (b := 5) rfl rfl with ⟨g1, h1⟩ | ⟨g1, h1⟩
    · have y0 : (if p2.toInt < 0 then (0 : Int32) else (if 5 < p2.toInt then 0 else 1)) = 0 := by
        by_cases z : p2.toInt < 0
        · rw [if_pos z]
        · rw [if_neg z, if_pos (by omega)]
      rw [y0, g1]
      rcases in0 p2 10 13 (a := 10) (b := 13) rfl rfl with ⟨g2, h2⟩ | ⟨g2, h2⟩
      · have y1 : (if p2.toInt < 10 then (0 : Int32) else (if 13 < p2.toInt then 0 else 1)) = 0 := by
          by_cases z : p2.toInt < 10
          · rw [if_pos z]
          · rw [if_neg z, if_pos (by omega)]
        rw [y1, g2, if_pos (show (0 : Int32) = 0 ∧ (0 : Int32) = 0 from ⟨rfl, rfl⟩)]
        exact ⟨_, rfl, rfl⟩
      · have y1 : (if p2.toInt < 10 then (0 : Int32) else (if 13 < p2.toInt then 0 else 1)) = 1 := by
          rw [if_neg (by omega), if_neg (by omega)]
        rw [y1, g2, if_neg (show ¬ ((0 : Int32) = 0 ∧ (1 : Int32) = 0) by decide), if_neg (show ¬ ((0 : Int32) = 0 ∧ (1 : Int32) = 0) by decide)]
        exact key 0 (Or.inr ⟨rfl, h2⟩)
    · have y0 : (if p2.toInt < 0 then (0 : Int32) else (if 5 < p2.toInt then 0 else 1)) = 1 := by
        rw [if_neg (by omega), if_neg (by omega)]
      rw [y0, g1, if_neg (fun z => n10 z.1), if_neg (show ¬ ((1 : Int32) = 0 ∧ F_X12_in p2 10 13 = 0) from fun z => n10 z.1)]
      exact key 1 (Or.inl ⟨rfl, h1⟩)
end
