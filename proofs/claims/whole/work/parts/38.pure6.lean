/-! PURE WORK 6: the relation -/
def HR (H H' : Nat → Int32) : Prop := (∀ j, j < 5 → H j = H' j ∧ 0 ≤ (H j).toInt ∧ (H j).toInt ≤ 9) ∧ 0 < (H 0).toInt + (H 1).toInt + (H 2).toInt + (H 3).toInt + (H 4).toInt
def AR (B n : Nat) (th : Nat → Option Nat) (C A : Nat → Int32) (pa : Option Nat) (A' : Nat → Int32) : Prop := (pa = none ∧ A' 0 = -1) ∨ ∃ c j m, j < n ∧ pa = some c ∧ th j = some c ∧ A' 0 = nI j ∧ A 1 = C (4 * j + 1) ∧ (∀ k, 1 ≤ k → k ≤ 7 → A (k + 1) = A' k) ∧ m ≤ B ∧ VF m A
def WR (B : Nat) (T : TM) (I : IM) (th : Nat → Option Nat) (cnt z : Int32) (L H A : Nat → Int32) (pa : Option Nat) (cnt' z' : Int32) (C L' H' A' : Nat → Int32) : Prop := ∃ n, CR T I th cnt cnt' C n ∧ z = z' ∧ EqL L L' ∧ HR H H' ∧ AR B n th C A pa A'
def qNow (s : Nat) (T : TM) (I : IM) (P : PM) : Prop := WR (400 * s) T I (P 66) (I 65 1) (I 65 5) (I 67) (I 68) (I 69) (P 69 0) (I 101 0) (I 101 5) (I 102) (I 103) (I 104) (I 106)
def qKept (s : Nat) (T : TM) (I : IM) (P : PM) : Prop := (I 64 2 = 0 ∧ I 101 50 = 0) ∨ (I 64 2 = 1 ∧ I 101 50 = 1 ∧ WR (400 * s) T I (P 71) (I 70 1) (I 70 5) (I 72) (I 73) (I 74) (P 74 0) (I 122 0) (I 122 1) (fun j => I 122 (j + 2)) (fun j => I 122 (j + 26)) (fun j => I 122 (j + 32)) (fun j => I 122 (j + 37)))
def BY (x y : Int32) : Prop := 0 ≤ y.toInt ∧ y.toInt ≤ 255 ∧ x.toInt = if y.toInt < 128 then y.toInt else y.toInt - 256
def qTape (I : IM) : Prop := ∃ n, n ≤ 200 ∧ I 80 1 = nI n ∧ I 101 8 = nI n ∧ ∀ j, j < n → BY (I 81 j) (I 107 j)
def qRows (I : IM) : Prop := ∃ n, n ≤ 20 ∧ I 64 11 = nI n ∧ I 101 36 = nI n ∧ ∀ j, j < 3 * n → I 88 j = I 113 j
def small (x : Int64) : Prop := -2147483648 ≤ x.toInt ∧ x.toInt ≤ 2147483647
def SH (a : Nat → Int32) (b : Nat → Int64) (so sz : Int32) (c : Nat → Int64) : Prop := (-1 ≤ so.toInt ∧ so.toInt ≤ 3) ∧ a 0 = so ∧ (∃ m, m ≤ 40 ∧ sz = nI m ∧ a 1 = nI m) ∧ ∀ k, k < 40 → b k = c k ∧ small (b k)
def qSh (I : IM) (J : JM) : Prop := ∀ q, q < 4 → SH (I (93 + 2 * q)) (J (94 + 2 * q)) (I 115 q) (I 116 q) (fun k => J 117 (40 * q + k))
def SF (h x l h' x' l' : Int32) : Prop := (h = 0 ∧ h' = -1) ∨ (h = 1 ∧ h' = 0 ∧ x = x') ∨ (h = 2 ∧ h' = 1 ∧ x = x' ∧ l = l')
def qShf (I : IM) : Prop := ∀ q, q < 4 → SF (I 85 q) (I 86 q) (I 87 q) (I 118 q) (I 119 q) (I 120 q)
def qTr (I : IM) : Prop := ∃ n, n ≤ 30 ∧ I 82 1 = nI n ∧ I 101 48 = nI n ∧ ∀ j, j < n → I 83 j = I 121 j
def qShp (P : PM) : Prop := ∀ q, q < 4 → P 84 q = some (93 + 2 * q)
def Rel (s : Nat) (T : TM) (I : IM) (J : JM) (P : PM) : Prop := 60 ≤ T.1 ∧ SinOK (I 105) ∧ qShp P ∧ qNow s T I P ∧ qKept s T I P ∧ qTape I ∧ qRows I ∧ qSh I J ∧ qShf I ∧ qTr I
theorem Rel.t60 {s : Nat} {T : TM} {I : IM} {J : JM} {P : PM} (h : Rel s T I J P) : 60 ≤ T.1 := h.1
theorem Rel.sin {s : Nat} {T : TM} {I : IM} {J : JM} {P : PM} (h : Rel s T I J P) : SinOK (I 105) := h.2.1
theorem Rel.shp {s : Nat} {T : TM} {I : IM} {J : JM} {P : PM} (h : Rel s T I J P) : qShp P := h.2.2.1
theorem Rel.now {s : Nat} {T : TM} {I : IM} {J : JM} {P : PM} (h : Rel s T I J P) : qNow s T I P := h.2.2.2.1
theorem Rel.kept {s : Nat} {T : TM} {I : IM} {J : JM} {P : PM} (h : Rel s T I J P) : qKept s T I P := h.2.2.2.2.1
theorem Rel.tape {s : Nat} {T : TM} {I : IM} {J : JM} {P : PM} (h : Rel s T I J P) : qTape I := h.2.2.2.2.2.1
theorem Rel.rows {s : Nat} {T : TM} {I : IM} {J : JM} {P : PM} (h : Rel s T I J P) : qRows I := h.2.2.2.2.2.2.1
theorem Rel.sh {s : Nat} {T : TM} {I : IM} {J : JM} {P : PM} (h : Rel s T I J P) : qSh I J := h.2.2.2.2.2.2.2.1
theorem Rel.shf {s : Nat} {T : TM} {I : IM} {J : JM} {P : PM} (h : Rel s T I J P) : qShf I := h.2.2.2.2.2.2.2.2.1
theorem Rel.tr {s : Nat} {T : TM} {I : IM} {J : JM} {P : PM} (h : Rel s T I J P) : qTr I := h.2.2.2.2.2.2.2.2.2
/-- what has not changed -/
def Fr (ch cP cJ cm cc : List Nat) (I I' : IM) (J J' : JM) (P P' : PM) : Prop := (∀ x, x ∉ ch → x ≠ 101 → x ≠ 64 → I' x = I x) ∧ (∀ j, j ∉ cm → I' 101 j = I 101 j) ∧ (∀ j, j ∉ cc → I' 64 j = I 64 j) ∧ (∀ x, x ∉ cP → P' x = P x) ∧ ∀ x, x ∉ cJ → J' x = J x
theorem Fr.i {ch cP cJ cm cc : List Nat} {I I' : IM} {J J' : JM} {P P' : PM} (h : Fr ch cP cJ cm cc I I' J J' P P') : ∀ x, x ∉ ch → x ≠ 101 → x ≠ 64 → I' x = I x := h.1
theorem Fr.m {ch cP cJ cm cc : List Nat} {I I' : IM} {J J' : JM} {P P' : PM} (h : Fr ch cP cJ cm cc I I' J J' P P') : ∀ j, j ∉ cm → I' 101 j = I 101 j := h.2.1
theorem Fr.c {ch cP cJ cm cc : List Nat} {I I' : IM} {J J' : JM} {P P' : PM} (h : Fr ch cP cJ cm cc I I' J J' P P') : ∀ j, j ∉ cc → I' 64 j = I 64 j := h.2.2.1
theorem Fr.p {ch cP cJ cm cc : List Nat} {I I' : IM} {J J' : JM} {P P' : PM} (h : Fr ch cP cJ cm cc I I' J J' P P') : ∀ x, x ∉ cP → P' x = P x := h.2.2.2.1
theorem Fr.j {ch cP cJ cm cc : List Nat} {I I' : IM} {J J' : JM} {P P' : PM} (h : Fr ch cP cJ cm cc I I' J J' P P') : ∀ x, x ∉ cJ → J' x = J x := h.2.2.2.2
theorem ge_notin {ch : List Nat} (d : ∀ y ∈ ch, y < 124) {x : Nat} (h : 124 ≤ x) : x ∉ ch := fun q => by have := d x q; omega
theorem AR.mono {B B' n : Nat} {th : Nat → Option Nat} {C A : Nat → Int32} {pa : Option Nat} {A' : Nat → Int32} (h : AR B n th C A pa A') (hb : B ≤ B') : AR B' n th C A pa A' := by
  rcases h with h | ⟨c, j, m, h1, h2, h3, h4, h5, h6, h7, h8⟩
  · exact Or.inl h
  · exact Or.inr ⟨c, j, m, h1, h2, h3, h4, h5, h6, by omega, h8⟩
theorem WR.mono {B B' : Nat} {T : TM} {I : IM} {th : Nat → Option Nat} {cnt z : Int32} {L H A : Nat → Int32} {pa : Option Nat} {cnt' z' : Int32} {C L' H' A' : Nat → Int32} (h : WR B T I th cnt z L H A pa cnt' z' C L' H' A') (hb : B ≤ B') : WR B' T I th cnt z L H A pa cnt' z' C L' H' A' := by
  obtain ⟨n, h1, h2, h3, h4, h5⟩ := h
  exact ⟨n, h1, h2, h3, h4, h5.mono hb⟩
theorem WR.cells {B : Nat} {T : TM} {I I' : IM} {th : Nat → Option Nat} {cnt z : Int32} {L H A : Nat → Int32} {pa : Option Nat} {cnt' z' : Int32} {C L' H' A' : Nat → Int32} (h : WR B T I th cnt z L H A pa cnt' z' C L' H' A') (hI : ∀ x, 124 ≤ x → x < 64 + T.1 → I' x = I x) : WR B T I' th cnt z L H A pa cnt' z' C L' H' A' := by
  obtain ⟨n, h1, h2⟩ := h
  exact ⟨n, h1.fr hI, h2⟩
section
variable {s : Nat} {T : TM} {I I' : IM} {J J' : JM} {P P' : PM} {ch cP cJ cm cc : List Nat}
theorem Fr.cells (f : Fr ch cP cJ cm cc I I' J J' P P') (d : ∀ y ∈ ch, y < 124) : ∀ x, 124 ≤ x → x < 64 + T.1 → I' x = I x := fun x hx _ => f.i x (ge_notin d hx) (by omega) (by omega)
theorem fr_sin (h : SinOK (I 105)) (f : Fr ch cP cJ cm cc I I' J J' P P') (d : 105 ∉ ch) : SinOK (I' 105) := by
  rw [f.i 105 d (by decide) (by decide)]
  exact h
theorem fr_shp (h : qShp P) (f : Fr ch cP cJ cm cc I I' J J' P P') (d : 84 ∉ cP) : qShp P' := by
  unfold qShp
  rw [f.p 84 d]
  exact h
theorem fr_now (h : qNow s T I P) (f : Fr ch cP cJ cm cc I I' J J' P P') (d : ((∀ x ∈ [65, 67, 68, 69, 102, 103, 104, 106], x ∉ ch) ∧ ∀ y ∈ ch, y < 124) ∧ (0 ∉ cm ∧ 5 ∉ cm) ∧ (66 ∉ cP ∧ 69 ∉ cP)) : qNow s T I' P' := by
  obtain ⟨⟨d1, d2⟩, ⟨d3, d4⟩, d5, d6⟩ := d
  unfold qNow
  rw [f.i 65 (d1 65 (by decide)) (by decide) (by decide), f.i 67 (d1 67 (by decide)) (by decide) (by decide), f.i 68 (d1 68 (by decide)) (by decide) (by decide), f.i 69 (d1 69 (by decide)) (by decide) (by decide), f.i 102 (d1 102 (by decide)) (by decide) (by decide), f.i 103 (d1 103 (by decide)) (by decide) (by decide), f.i 104 (d1 104 (by decide)) (by decide) (by decide), f.i 106 (d1 106 (by decide)) (by decide) (by decide), f.m 0 d3, f.m 5 d4, f.p 66 d5, f.p 69 d6]
  exact WR.cells h (f.cells d2)
theorem fr_kept (h : qKept s T I P) (f : Fr ch cP cJ cm cc I I' J J' P P') (d : ((∀ x ∈ [70, 72, 73, 74, 122], x ∉ ch) ∧ ∀ y ∈ ch, y < 124) ∧ (50 ∉ cm ∧ 2 ∉ cc) ∧ (71 ∉ cP ∧ 74 ∉ cP)) : qKept s T I' P' := by
  obtain ⟨⟨d1, d2⟩, ⟨d3, d4⟩, d5, d6⟩ := d
  unfold qKept
  rw [f.i 70 (d1 70 (by decide)) (by decide) (by decide), f.i 72 (d1 72 (by decide)) (by decide) (by decide), f.i 73 (d1 73 (by decide)) (by decide) (by decide), f.i 74 (d1 74 (by decide)) (by decide) (by decide), f.i 122 (d1 122 (by decide)) (by decide) (by decide), f.m 50 d3, f.c 2 d4, f.p 71 d5, f.p 74 d6]
  rcases h with h | ⟨h1, h2, h3⟩
  · exact Or.inl h
  · exact Or.inr ⟨h1, h2, WR.cells h3 (f.cells d2)⟩
theorem fr_tape (h : qTape I) (f : Fr ch cP cJ cm cc I I' J J' P P') (d : (∀ x ∈ [80, 81, 107], x ∉ ch) ∧ 8 ∉ cm) : qTape I' := by
  obtain ⟨d1, d2⟩ := d
  unfold qTape
  rw [f.i 80 (d1 80 (by decide)) (by decide) (by decide), f.i 81 (d1 81 (by decide)) (by decide) (by decide), f.i 107 (d1 107 (by decide)) (by decide) (by decide), f.m 8 d2]
  exact h
theorem fr_rows (h : qRows I) (f : Fr ch cP cJ cm cc I I' J J' P P') (d : (∀ x ∈ [88, 113], x ∉ ch) ∧ 36 ∉ cm ∧ 11 ∉ cc) : qRows I' := by
  obtain ⟨d1, d2, d3⟩ := d
  unfold qRows
  rw [f.i 88 (d1 88 (by decide)) (by decide) (by decide), f.i 113 (d1 113 (by decide)) (by decide) (by decide), f.m 36 d2, f.c 11 d3]
  exact h
theorem fr_sh (h : qSh I J) (f : Fr ch cP cJ cm cc I I' J J' P P') (d : (∀ x ∈ [93, 95, 97, 99, 115, 116], x ∉ ch) ∧ ∀ x ∈ [94, 96, 98, 100, 117], x ∉ cJ) : qSh I' J' := by
  obtain ⟨d1, d2⟩ := d
  intro q hq
  rw [f.i 115 (d1 115 (by decide)) (by decide) (by decide), f.i 116 (d1 116 (by decide)) (by decide) (by decide), f.j 117 (d2 117 (by decide))]
  have : q = 0 ∨ q = 1 ∨ q = 2 ∨ q = 3 := by omega
  rcases this with rfl | rfl | rfl | rfl
  · rw [f.i 93 (d1 93 (by decide)) (by decide) (by decide), f.j 94 (d2 94 (by decide))]; exact h 0 hq
  · rw [f.i 95 (d1 95 (by decide)) (by decide) (by decide), f.j 96 (d2 96 (by decide))]; exact h 1 hq
  · rw [f.i 97 (d1 97 (by decide)) (by decide) (by decide), f.j 98 (d2 98 (by decide))]; exact h 2 hq
  · rw [f.i 99 (d1 99 (by decide)) (by decide) (by decide), f.j 100 (d2 100 (by decide))]; exact h 3 hq
theorem fr_shf (h : qShf I) (f : Fr ch cP cJ cm cc I I' J J' P P') (d : ∀ x ∈ [85, 86, 87, 118, 119, 120], x ∉ ch) : qShf I' := by
  unfold qShf
  rw [f.i 85 (d 85 (by decide)) (by decide) (by decide), f.i 86 (d 86 (by decide)) (by decide) (by decide), f.i 87 (d 87 (by decide)) (by decide) (by decide), f.i 118 (d 118 (by decide)) (by decide) (by decide), f.i 119 (d 119 (by decide)) (by decide) (by decide), f.i 120 (d 120 (by decide)) (by decide) (by decide)]
  exact h
theorem fr_tr (h : qTr I) (f : Fr ch cP cJ cm cc I I' J J' P P') (d : (∀ x ∈ [82, 83, 121], x ∉ ch) ∧ 48 ∉ cm) : qTr I' := by
  obtain ⟨d1, d2⟩ := d
  unfold qTr
  rw [f.i 82 (d1 82 (by decide)) (by decide) (by decide), f.i 83 (d1 83 (by decide)) (by decide) (by decide), f.i 121 (d1 121 (by decide)) (by decide) (by decide), f.m 48 d2]
  exact h
def scr : List Nat := [75, 76, 77, 78, 79, 89, 90, 91, 92, 108, 109, 110, 111, 112, 114, 123]
def scm : List Nat := [9, 10, 11, 12, 13, 14, 15, 19, 20, 21, 22, 23, 24, 25, 26, 27, 28, 29, 30, 31, 37, 44, 45, 46, 49, 52]
theorem Rel.fr (r : Rel s T I J P) (f : Fr scr [76, 79, 89, 90] [] scm [] I I' J J' P P') : Rel s T I' J' P' :=
  ⟨r.t60, fr_sin r.sin f (by decide), fr_shp r.shp f (by decide), fr_now r.now f (by decide), fr_kept r.kept f (by decide), fr_tape r.tape f (by decide), fr_rows r.rows f (by decide), fr_sh r.sh f (by decide), fr_shf r.shf f (by decide), fr_tr r.tr f (by decide)⟩
theorem Rel.mono (r : Rel s T I J P) : Rel (s + 1) T I J P :=
  ⟨r.t60, r.sin, r.shp, WR.mono r.now (by omega), by
    rcases r.kept with h | ⟨h1, h2, h3⟩
    · exact Or.inl h
    · exact Or.inr ⟨h1, h2, WR.mono h3 (by omega)⟩, r.tape, r.rows, r.sh, r.shf, r.tr⟩
end
/-- at the start -/
theorem s_T : 60 ≤ mS.1.1 := by rw [mS_60]; exact Nat.le_refl _
set_option maxRecDepth 100000 in
theorem s_sin : SinOK (mS.2.1 105) := by unfold SinOK; decide +kernel
set_option maxRecDepth 100000 in
theorem s_shp : qShp mS.2.2.2 := by unfold qShp; decide +kernel
set_option maxRecDepth 100000 in
theorem s_a : (mS.2.1 65 1 = 0 ∧ mS.2.1 101 0 = 0 ∧ fOk mS.1 (mS.2.2.2 66) 6 = true ∧ mS.2.1 65 5 = mS.2.1 101 5 ∧ mS.2.2.2 69 0 = none ∧ mS.2.1 106 0 = -1 ∧ mS.2.1 64 2 = 0 ∧ mS.2.1 101 50 = 0) ∧ mS.2.1 80 1 = 0 ∧ mS.2.1 101 8 = 0 ∧ mS.2.1 64 11 = 0 ∧ mS.2.1 101 36 = 0 ∧ mS.2.1 82 1 = 0 ∧ mS.2.1 101 48 = 0 := by decide +kernel
set_option maxRecDepth 100000 in
theorem s_L : EqL (mS.2.1 67) (mS.2.1 103) := by unfold EqL; decide +kernel
set_option maxRecDepth 100000 in
theorem s_H : HR (mS.2.1 68) (mS.2.1 104) := by unfold HR; decide +kernel
set_option maxRecDepth 100000 in
theorem s_sh1 : ∀ q, q < 4 → (-1 ≤ (mS.2.1 115 q).toInt ∧ (mS.2.1 115 q).toInt ≤ 3) ∧ mS.2.1 (93 + 2 * q) 0 = mS.2.1 115 q ∧ mS.2.1 116 q = 0 ∧ mS.2.1 (93 + 2 * q) 1 = 0 ∧ ∀ k, k < 40 → mS.2.2.1 (94 + 2 * q) k = mS.2.2.1 117 (40 * q + k) ∧ small (mS.2.2.1 (94 + 2 * q) k) := by unfold small; decide +kernel
set_option maxRecDepth 100000 in
theorem s_shf : ∀ q, q < 4 → mS.2.1 85 q = 0 ∧ mS.2.1 118 q = -1 := by decide +kernel
theorem s_Rel : Rel 0 mS.1 mS.2.1 mS.2.2.1 mS.2.2.2 := by
  obtain ⟨⟨a1, a2, a3, a4, a5, a6, a7, a8⟩, a9, a10, a11, a12, a13, a14⟩ := s_a
  refine ⟨s_T, s_sin, s_shp, ?_, Or.inl ⟨a7, a8⟩, ⟨0, by decide, a9, a10, fun j hj => by omega⟩, ⟨0, by decide, a11, a12, fun j hj => by omega⟩, ?_, ?_, ⟨0, by decide, a13, a14, fun j hj => by omega⟩⟩
  · exact ⟨0, ⟨by decide, a1, a2, fun j hj => by omega, a3⟩, a4, s_L, s_H, Or.inl ⟨a5, a6⟩⟩
  · intro q hq
    obtain ⟨h1, h2, h3, h4, h5⟩ := s_sh1 q hq
    exact ⟨h1, h2, ⟨0, by decide, h3, h4⟩, h5⟩
  · intro q hq
    exact Or.inl (s_shf q hq)
