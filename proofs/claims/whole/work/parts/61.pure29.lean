/-! THE TAPE: the class's pieces -/
section
variable {N n : Nat} {tp : Nat → Int32} {I I' I'' : IM} {J : JM}
def TpX (I : IM) (n : Nat) (tp : Nat → Int32) : Prop := I 80 1 = nI n ∧ ∀ j, j < n → BY (I 81 j) (tp j)
/-- what a piece of reading changes -/
def FT (I I' : IM) : Prop := (∀ x, x ≠ 80 → I' x = I x) ∧ ∀ y, y ≠ 2 → y ≠ 3 → I' 80 y = I 80 y
theorem FT.re (I : IM) : FT I I := ⟨fun _ _ => rfl, fun _ _ _ => rfl⟩
theorem FT.tr (h : FT I I') (h2 : FT I' I'') : FT I I'' := ⟨fun x a => (h2.1 x a).trans (h.1 x a), fun y a b => (h2.2 y a b).trans (h.2 y a b)⟩
theorem FT.s2 {v : Int32} : FT I (up2 I 80 2 v) := ⟨fun x a => up2_oth _ _ _ a, fun y a _ => up2_n _ _ (by omega)⟩
theorem FT.s3 {v : Int32} : FT I (up2 I 80 3 v) := ⟨fun x a => up2_oth _ _ _ a, fun y _ a => up2_n _ _ (by omega)⟩
theorem TpX.ft (h : TpX I n tp) (f : FT I I') : TpX I' n tp := ⟨by rw [f.2 1 (by decide) (by decide)]; exact h.1, fun j hj => by rw [f.1 81 (by decide)]; exact h.2 j hj⟩
def XS (n : Nat) (tp : Nat → Int32) (I : IM) (p : Nat) : Prop := TpX I n tp ∧ I 80 2 = nI p ∧ p ≤ n ∧ I 80 3 = -1
def XFl (n : Nat) (tp : Nat → Int32) (I : IM) (f : Nat) : Prop := TpX I n tp ∧ (∃ p, p ≤ n ∧ I 80 2 = nI p) ∧ I 80 3 = nI f ∧ f ≤ n
theorem nI_m1n {f : Nat} (h : f ≤ 200) : ¬ nI f = -1 := fun e => by
  have := congrArg Int32.toInt e
  rw [nI_toInt (by omega), tm1] at this
  omega
theorem XS.good {p : Nat} (h : XS n tp I p) : F_X6_isGood I = 1 := by unfold F_X6_isGood; rw [h.2.2.2]; rfl
theorem XFl.bad {f : Nat} (ok : TpOK n tp) (h : XFl n tp I f) : F_X6_isGood I = 0 := by
  have := ok.1
  have := h.2.2.2
  unfold F_X6_isGood
  rw [h.2.2.1, if_neg (nI_m1n (by omega))]
theorem by_eq {x y c : Int32} (h : BY x y) (hc : 0 ≤ c.toInt ∧ c.toInt ≤ 127) : x = c ↔ y = c := by
  obtain ⟨h1, h2, h3⟩ := h
  rw [← Int32.toInt_inj, ← Int32.toInt_inj, h3]
  split <;> constructor <;> intro z <;> omega
theorem by_in {x y lo hi : Int32} {a b : Int} (h : BY x y) (ha : lo.toInt = a) (hb : hi.toInt = b) (h0 : 0 ≤ a) (h1 : b ≤ 127) : F_X12_in x lo hi = F_X12_in y lo hi := by
  obtain ⟨g1, g2, g3⟩ := h
  rcases in0 y lo hi ha hb with ⟨g, q⟩ | ⟨g, q⟩
  · rw [g]
    apply in2 ha hb
    split at g3 <;> omega
  · rw [g]
    apply in1 ha hb
    split at g3 <;> omega
theorem x_between (ok : TpOK n tp) (hT : TpX I n tp) {p : Nat} (hp : p < 1000) {lo hi : Int32} {a b : Int} (ha : lo.toInt = a) (hb : hi.toInt = b) (h0 : 0 ≤ a) (h1 : b ≤ 127) : F_X6_isBetween I (nI p) lo hi = some (F_X12_in (tp p) lo hi) := by
  have h200 := ok.1
  unfold F_X6_isBetween
  rw [if_neg (nI_pos (by omega)), hT.1]
  by_cases q : p < n
  · have hin : inb (nI p) 200 = true := inbN (by omega) (by decide)
    rw [if_neg (nI_ge q (by omega)), if_pos hin, if_pos hin, nI_clamp (by omega), ← by_in (hT.2 p q) ha hb h0 h1]
    unfold F_X12_in
    split
    · rfl
    · split <;> rfl
  · rw [if_pos (nI_le (by omega) (by omega)), ok.2.2 p (by omega)]
    rw [in2 (p := -1) ha hb (by rw [tm1]; omega)]
theorem x_skipL (ok : TpOK n tp) : ∀ (m p : Nat) (I : IM), p ≤ n → n < p + m → TpX I n tp → I 80 2 = nI p → ∀ f, m ≤ f → ∃ I', G_X6_skipBlanks_0 N f I = some I' ∧ I' 80 2 = nI (skF tp m p) ∧ FT I I' ∧ I' 80 3 = I 80 3 := by
  have h200 := ok.1
  intro m
  induction m with
  | zero => intro p I h1 h2; omega
  | succ m ih =>
    intro p I h1 h2 hT e2 f hf
    obtain ⟨f, rfl⟩ : ∃ g, f = g + 1 := ⟨f - 1, by omega⟩
    rw [G_X6_skipBlanks_0, hT.1, e2]
    unfold skF
    by_cases q : p < n
    · have hb := by_eq (c := 32) (hT.2 p q) (by decide)
      rw [if_neg (nI_ge q (by omega)), if_pos (inbN (by omega) (by decide)), nI_clamp (by omega)]
      by_cases z : tp p = 32
      · rw [if_pos (hb.mpr z), if_pos z]
        simp only [letb]
        rw [nI_1]
        obtain ⟨I1, e, f1, f2, f3⟩ := ih (p + 1) (up2 I 80 2 (nI (p + 1))) (by omega) (by omega) (hT.ft FT.s2) (up2_s _ _ _ _) f (by omega)
        exact ⟨I1, e, f1, FT.s2.tr f2, by rw [f3, up2_n _ _ (by omega)]⟩
      · rw [if_neg (fun c => z (hb.mp c)), if_neg z]
        exact ⟨I, rfl, e2, FT.re _, rfl⟩
    · have z : ¬ tp p = 32 := fun c => q (bl_in ok c)
      rw [if_pos (nI_le (by omega) (by omega)), if_neg z]
      exact ⟨I, rfl, e2, FT.re _, rfl⟩
theorem x_skip (hN : 201 ≤ N) (ok : TpOK n tp) {p : Nat} (h : XS n tp I p) : ∃ I', F_X6_skipBlanks N I = some I' ∧ XS n tp I' (sk tp p) ∧ FT I I' := by
  have h200 := ok.1
  obtain ⟨a, b, c, d⟩ := h
  obtain ⟨I1, e, f1, f2, f3⟩ := x_skipL (N := N) ok 201 p I c (by omega) a b N hN
  exact ⟨I1, e, ⟨a.ft f2, f1, (sk_sp ok c).2.1, by rw [f3]; exact d⟩, f2⟩
theorem x_skip_f (hN : 201 ≤ N) (ok : TpOK n tp) {f : Nat} (h : XFl n tp I f) : ∃ I', F_X6_skipBlanks N I = some I' ∧ XFl n tp I' f ∧ FT I I' := by
  have h200 := ok.1
  obtain ⟨a, ⟨p, c, b⟩, d, g⟩ := h
  obtain ⟨I1, e, f1, f2, f3⟩ := x_skipL (N := N) ok 201 p I c (by omega) a b N hN
  exact ⟨I1, e, ⟨a.ft f2, ⟨sk tp p, (sk_sp ok c).2.1, f1⟩, by rw [f3]; exact d, g⟩, f2⟩
theorem x_blame {p : Nat} (h : XS n tp I p) : ∃ I', F_X6_blameHere I = some I' ∧ XFl n tp I' p ∧ FT I I' := by
  refine ⟨up2 I 80 3 (nI p), ?_, ⟨h.1.ft FT.s3, ⟨p, h.2.2.1, by rw [up2_n _ _ (by omega)]; exact h.2.1⟩, up2_s _ _ _ _, h.2.2.1⟩, FT.s3⟩
  unfold F_X6_blameHere
  rw [h.good, if_neg n10, h.2.1]
  rfl
theorem x_blame_f (ok : TpOK n tp) {f : Nat} (h : XFl n tp I f) : F_X6_blameHere I = some I := by
  unfold F_X6_blameHere
  rw [h.bad ok, if_pos rfl]
theorem x_nameL (ok : TpOK n tp) (hT : TpX I n tp) {k q : Nat} {u : Int32} (hk : k < 15) (e2 : I 80 2 = nI q) (hq : q + sl k ≤ n) : ∀ (m i : Nat), i + m = sl k → ∀ f, m < f → ((∀ j, i ≤ j → j < sl k → tp (q + j) = strCh k (nI j)) → G_X6_passName_45 N I k u f (nI i) = some (1, up2 I 80 2 u)) ∧ ((¬ ∀ j, i ≤ j → j < sl k → tp (q + j) = strCh k (nI j)) → G_X6_passName_45 N I k u f (nI i) = some (0, I)) := by
  have h200 := ok.1
  have hs := sl_bd k hk
  have hsl : strLn.getD k 0 = sl k := rfl
  intro m
  induction m with
  | zero =>
    intro i hi f hf
    obtain ⟨f, rfl⟩ : ∃ g, f = g + 1 := ⟨f - 1, by omega⟩
    rw [G_X6_passName_45, hsl, if_pos (nI_le (by omega) (by omega))]
    exact ⟨fun _ => rfl, fun h => absurd (fun j a b => by omega) h⟩
  | succ m ih =>
    intro i hi f hf
    obtain ⟨f, rfl⟩ : ∃ g, f = g + 1 := ⟨f - 1, by omega⟩
    have hb := ch_bd k hk i (by omega)
    have he := by_eq (c := strCh k (nI i)) (hT.2 (q + i) (by omega)) (by omega)
    rw [G_X6_passName_45, hsl, if_neg (nI_ge (by omega) (by omega)), e2, nI_add, if_pos (inbN (by omega) (by decide)), if_pos (inbN (by omega) (by omega)), nI_clamp (by omega), nI_1]
    obtain ⟨h1, h2⟩ := ih (i + 1) (by omega) f (by omega)
    by_cases z : tp (q + i) = strCh k (nI i)
    · rw [if_pos (he.mpr z)]
      refine ⟨fun h => h1 (fun j a b => h j (by omega) b), fun h => h2 (fun c => h (fun j a b => ?_))⟩
      by_cases w : j = i
      · rw [w]; exact z
      · exact c j (by omega) b
    · rw [if_neg (fun c => z (he.mp c))]
      exact ⟨fun h => absurd (h i (Nat.le_refl _) (by omega)) z, fun _ => rfl⟩
theorem x_name (hN : 201 ≤ N) (ok : TpOK n tp) {k p : Nat} (hk : k < 15) (h : XS n tp I p) : (nmA tp k (sk tp p) → ∃ I', F_X6_passName N I k = some (1, I') ∧ XS n tp I' (sk tp p + sl k) ∧ FT I I') ∧ (¬ nmA tp k (sk tp p) → ∃ I', F_X6_passName N I k = some (0, I') ∧ XS n tp I' (sk tp p) ∧ FT I I') := by
  have h200 := ok.1
  have hs := sl_bd k hk
  have hsl : strLn.getD k 0 = sl k := rfl
  obtain ⟨I1, e1, s1, f1⟩ := x_skip hN ok h
  have hq := s1.2.2.1
  generalize sk tp p = q at *
  have ex : F_X6_passName N I k = (if n < q + sl k then (some (0, I1)) else (if F_X12_in (tp (q + sl k)) 97 122 = 0 then (G_X6_passName_45 N I1 k (nI (q + sl k)) N 0) else (some (0, I1)))) := by
    unfold F_X6_passName
    rw [e1]
    simp only [Option.bind_some, letb]
    rw [s1.good, if_neg n10, s1.2.1, hsl, nI_add, s1.1.1, x_between ok s1.1 (by omega) (a := 97) (b := 122) rfl rfl (by decide) (by decide)]
    simp only [Option.bind_some]
    by_cases z : n < q + sl k
    · rw [if_pos z, if_pos (nI_lt z (by omega))]
    · rw [if_neg z, if_neg (nI_nlt (by omega) (by omega))]
  constructor
  · intro hn
    obtain ⟨-, hle⟩ := name_end ok hk hq hn
    refine ⟨up2 I1 80 2 (nI (q + sl k)), ?_, ⟨s1.1.ft FT.s2, up2_s _ _ _ _, hle, by rw [up2_n _ _ (by omega)]; exact s1.2.2.2⟩, f1.tr FT.s2⟩
    rw [ex, if_neg (by omega), if_pos hn.2]
    exact (x_nameL (N := N) (u := nI (q + sl k)) ok s1.1 hk s1.2.1 hle (sl k) 0 (by omega) N (by omega)).1 (fun j _ b => hn.1 j b)
  · intro hn
    refine ⟨I1, ?_, s1, f1⟩
    rw [ex]
    by_cases z : n < q + sl k
    · rw [if_pos z]
    · rw [if_neg z]
      by_cases w : F_X12_in (tp (q + sl k)) 97 122 = 0
      · rw [if_pos w]
        exact (x_nameL (N := N) (u := nI (q + sl k)) ok s1.1 hk s1.2.1 (by omega) (sl k) 0 (by omega) N (by omega)).2 (fun c => hn ⟨fun j b => c j (by omega) b, w⟩)
      · rw [if_neg w]
theorem x_name_f (hN : 201 ≤ N) (ok : TpOK n tp) {k f : Nat} (h : XFl n tp I f) : ∃ I', F_X6_passName N I k = some (0, I') ∧ XFl n tp I' f ∧ FT I I' := by
  obtain ⟨I1, e1, s1, f1⟩ := x_skip_f hN ok h
  refine ⟨I1, ?_, s1, f1⟩
  unfold F_X6_passName
  rw [e1]
  simp only [Option.bind_some, letb]
  rw [s1.bad ok, if_pos rfl]
/-! numbers -/
def cvF (tp : Nat → Int32) : Nat → Nat → Int32 → Int32
  | 0, _, u => u
  | m + 1, e, u => if F_X12_in (tp e) 48 57 = 0 then u else cvF tp m (e + 1) (if 100 < (((u * 10) + tp e) - 48) then 100 else (((u * 10) + tp e) - 48))
def xfin (I : IM) (u1 u2 u3 u4 : Int32) : Option (Int32 × IM) := (letb (u3 - (I 80 2)) (fun y5 : Int32 => (if (F_X6_isGood I) = 0 then ((F_X6_blameHere I).bind (fun x7 => (some (0, x7)))) else (if y5 < 1 then ((F_X6_blameHere I).bind (fun x9 => (some (0, x9)))) else (if 2 < y5 then ((F_X6_blameHere I).bind (fun x11 => (some (0, x11)))) else (if u4 < u1 then ((F_X6_blameHere I).bind (fun x13 => (some (0, x13)))) else (if u4 ≤ u2 then (letb (up2 I 80 2 u3) (fun I15 : IM => (some (u4, I15)))) else ((F_X6_blameHere I).bind (fun x16 => (some (0, x16)))))))))))
theorem x_numL (ok : TpOK n tp) (hT : TpX I n tp) {lo hi : Int32} : ∀ (m e : Nat) (u : Int32), e ≤ n → n < e + m → ∀ f, m ≤ f → G_X6_readNumber_12 N I lo hi f (nI e) u = xfin I lo hi (nI (deF tp m e)) (cvF tp m e u) := by
  have h200 := ok.1
  intro m
  induction m with
  | zero => intro e u h1 h2; omega
  | succ m ih =>
    intro e u h1 h2 f hf
    obtain ⟨f, rfl⟩ : ∃ g, f = g + 1 := ⟨f - 1, by omega⟩
    rw [G_X6_readNumber_12, hT.1, x_between ok hT (by omega) (a := 48) (b := 57) rfl rfl (by decide) (by decide)]
    unfold deF cvF
    by_cases q : e < n
    · rw [if_neg (nI_ge q (by omega))]
      simp only [Option.bind_some]
      by_cases z : F_X12_in (tp e) 48 57 = 0
      · rw [if_pos z, if_pos z, if_pos z]
        rfl
      · have hb : I 81 e = tp e := by
          rcases in0 (tp e) 48 57 (a := 48) (b := 57) rfl rfl with ⟨g, _⟩ | ⟨_, g⟩
          · exact absurd g z
          · exact (by_eq (hT.2 e q) (by omega)).mpr rfl
        rw [if_neg z, if_neg z, if_neg z, if_pos (inbN (by omega) (by decide)), nI_clamp (by omega), hb, nI_1]
        simp only [letb]
        exact ih (e + 1) _ (by omega) (by omega) f (by omega)
    · have z : F_X12_in (tp e) 48 57 = 0 := by rw [ok.2.2 e (by omega)]; decide
      rw [if_pos (nI_le (by omega) (by omega)), if_pos z, if_pos z]
      rfl
theorem deF_d {m p : Nat} (h : ¬ F_X12_in (tp p) 48 57 = 0) : deF tp (m + 1) p = deF tp m (p + 1) := by rw [deF, if_neg h]
theorem deF_n {m p : Nat} (h : F_X12_in (tp p) 48 57 = 0) : deF tp (m + 1) p = p := by rw [deF, if_pos h]
theorem nmF_d {b m p : Nat} {v : Int32} (h : ¬ F_X12_in (tp p) 48 57 = 0) : nmF tp b (m + 1) p v = nmF tp b m (p + 1) (if 2 ≤ p - b then (-1) else ((10 * v) + tp p) - 48) := by rw [nmF, if_neg h]
theorem nmF_n {b m p : Nat} {v : Int32} (h : F_X12_in (tp p) 48 57 = 0) : nmF tp b (m + 1) p v = v := by rw [nmF, if_pos h]
theorem cvF_d {m p : Nat} {v : Int32} (h : ¬ F_X12_in (tp p) 48 57 = 0) : cvF tp (m + 1) p v = cvF tp m (p + 1) (if 100 < (((v * 10) + tp p) - 48) then 100 else (((v * 10) + tp p) - 48)) := by rw [cvF, if_neg h]
theorem cvF_n {m p : Nat} {v : Int32} (h : F_X12_in (tp p) 48 57 = 0) : cvF tp (m + 1) p v = v := by rw [cvF, if_pos h]
theorem nmF_m {b : Nat} : ∀ (m p : Nat), b + 2 ≤ p → nmF tp b m p (-1) = -1 := by
  intro m
  induction m with
  | zero => intro p _; rfl
  | succ m ih =>
    intro p h
    by_cases z : F_X12_in (tp p) 48 57 = 0
    · rw [nmF_n z]
    · rw [nmF_d z, if_pos (by omega)]
      exact ih (p + 1) (by omega)
theorem srt_2 {q : Nat} : srt tp q = 2 ↔ ¬ F_X12_in (tp q) 48 57 = 0 := by
  unfold srt
  constructor
  · intro h z
    rw [z, if_pos rfl] at h
    revert h
    repeat' split
    all_goals decide
  · intro h
    rcases in0 (tp q) 48 57 (a := 48) (b := 57) rfl rfl with ⟨g, _⟩ | ⟨_, g⟩
    · exact absurd g h
    · have h0 : 0 ≤ tp q := by rw [Int32.le_iff_toInt_le]; show (0 : Int) ≤ _; omega
      rw [if_pos h0, if_pos (in2 (a := 97) (b := 122) rfl rfl (by omega)), if_neg h]
theorem dg_bd {x : Int32} (h : ¬ F_X12_in x 48 57 = 0) : 48 ≤ x.toInt ∧ x.toInt ≤ 57 := by
  rcases in0 x 48 57 (a := 48) (b := 57) rfl rfl with ⟨g, _⟩ | ⟨_, q⟩
  · exact absurd g h
  · exact q
theorem num_cases (ok : TpOK n tp) {q : Nat} (h : srt tp q = 2) : q + 1 ≤ deF tp 201 q ∧ ((deF tp 201 q ≤ q + 2 ∧ cvF tp 201 q 0 = val tp q) ∨ (q + 2 < deF tp 201 q ∧ val tp q = -1)) := by
  have h200 := ok.1
  have t48 : (48 : Int32).toInt = 48 := rfl
  have t10 : (10 : Int32).toInt = 10 := rfl
  have t100 : (100 : Int32).toInt = 100 := rfl
  have d0 := srt_2.mp h
  have b0 := dg_bd d0
  have q0 := dg_in ok d0
  have e0 : deF tp 201 q = deF tp 200 (q + 1) := deF_d d0
  have v0 : val tp q = nmF tp q 200 (q + 1) (tp q - 48) := by
    rw [val_2 h]
    have : nmF tp q 201 q 0 = nmF tp q 200 (q + 1) (if 2 ≤ q - q then (-1) else ((10 * 0) + tp q) - 48) := nmF_d d0
    rw [this, if_neg (by omega), Int32.mul_zero, Int32.zero_add]
  have x0 : (tp q - 48).toInt = (tp q).toInt - 48 := by rw [Int32.toInt_sub, t48, Int.bmod_eq_of_le (by omega) (by omega)]
  have c0 : cvF tp 201 q 0 = cvF tp 200 (q + 1) (tp q - 48) := by
    have : cvF tp 201 q 0 = cvF tp 200 (q + 1) (if 100 < (((0 * 10) + tp q) - 48) then 100 else (((0 * 10) + tp q) - 48)) := cvF_d d0
    rw [this, Int32.zero_mul, Int32.zero_add, if_neg]
    rw [Int32.lt_iff_toInt_lt, x0, t100]
    omega
  by_cases d1 : F_X12_in (tp (q + 1)) 48 57 = 0
  · have e1 : deF tp 200 (q + 1) = q + 1 := deF_n d1
    have v1 : nmF tp q 200 (q + 1) (tp q - 48) = tp q - 48 := nmF_n d1
    have c1 : cvF tp 200 (q + 1) (tp q - 48) = tp q - 48 := cvF_n d1
    rw [e0, e1, v0, v1, c0, c1]
    exact ⟨by omega, Or.inl ⟨by omega, rfl⟩⟩
  · have b1 := dg_bd d1
    have q1 := dg_in ok d1
    have e1 : deF tp 200 (q + 1) = deF tp 199 (q + 2) := deF_d d1
    have v1 : nmF tp q 200 (q + 1) (tp q - 48) = nmF tp q 199 (q + 2) (10 * (tp q - 48) + tp (q + 1) - 48) := by
      have : nmF tp q 200 (q + 1) (tp q - 48) = nmF tp q 199 (q + 2) (if 2 ≤ q + 1 - q then (-1) else ((10 * (tp q - 48)) + tp (q + 1)) - 48) := nmF_d d1
      rw [this, if_neg (by omega)]
    have c1 : cvF tp 200 (q + 1) (tp q - 48) = cvF tp 199 (q + 2) (10 * (tp q - 48) + tp (q + 1) - 48) := by
      have : cvF tp 200 (q + 1) (tp q - 48) = cvF tp 199 (q + 2) (if 100 < ((((tp q - 48) * 10) + tp (q + 1)) - 48) then 100 else ((((tp q - 48) * 10) + tp (q + 1)) - 48)) := cvF_d d1
      rw [this, Int32.mul_comm, if_neg]
      rw [Int32.lt_iff_toInt_lt, t100, Int32.toInt_sub, Int32.toInt_add, Int32.toInt_mul, x0, t48, t10, Int.bmod_eq_of_le (n := 10 * ((tp q).toInt - 48)) (by omega) (by omega), Int.bmod_eq_of_le (n := 10 * ((tp q).toInt - 48) + (tp (q + 1)).toInt) (by omega) (by omega), Int.bmod_eq_of_le (by omega) (by omega)]
      omega
    by_cases d2 : F_X12_in (tp (q + 2)) 48 57 = 0
    · have e2 : deF tp 199 (q + 2) = q + 2 := deF_n d2
      have v2 : nmF tp q 199 (q + 2) (10 * (tp q - 48) + tp (q + 1) - 48) = 10 * (tp q - 48) + tp (q + 1) - 48 := nmF_n d2
      have c2 : cvF tp 199 (q + 2) (10 * (tp q - 48) + tp (q + 1) - 48) = 10 * (tp q - 48) + tp (q + 1) - 48 := cvF_n d2
      rw [e0, e1, e2, v0, v1, v2, c0, c1, c2]
      exact ⟨by omega, Or.inl ⟨by omega, rfl⟩⟩
    · have q2 := dg_in ok d2
      have e2 : deF tp 199 (q + 2) = deF tp 198 (q + 3) := deF_d d2
      have v2 : nmF tp q 199 (q + 2) (10 * (tp q - 48) + tp (q + 1) - 48) = -1 := by
        have : nmF tp q 199 (q + 2) (10 * (tp q - 48) + tp (q + 1) - 48) = nmF tp q 198 (q + 3) (if 2 ≤ q + 2 - q then (-1) else ((10 * (10 * (tp q - 48) + tp (q + 1) - 48)) + tp (q + 2)) - 48) := nmF_d d2
        rw [this, if_pos (by omega)]
        exact nmF_m 198 (q + 3) (by omega)
      have g := deF_sp ok 198 (q + 3) (by omega) (by omega)
      rw [e0, e1, e2, v0, v1, v2]
      exact ⟨by omega, Or.inr ⟨by omega, rfl⟩⟩
theorem x_num (hN : 201 ≤ N) (ok : TpOK n tp) {p : Nat} (h : XS n tp I p) {lo hi : Int32} (hlo : 0 ≤ lo.toInt) : ((srt tp (sk tp p) = 2 ∧ F_X12_in (val tp (sk tp p)) lo hi = 1) → ∃ I', F_X6_readNumber N I lo hi = some (val tp (sk tp p), I') ∧ XS n tp I' (tend tp (sk tp p)) ∧ FT I I') ∧ (¬ (srt tp (sk tp p) = 2 ∧ F_X12_in (val tp (sk tp p)) lo hi = 1) → ∃ I', F_X6_readNumber N I lo hi = some (0, I') ∧ XFl n tp I' (sk tp p) ∧ FT I I') := by
  have h200 := ok.1
  obtain ⟨I1, e1, s1, f1⟩ := x_skip hN ok h
  have hq := s1.2.2.1
  generalize sk tp p = q at *
  have hd := deF_sp ok 201 q hq (by omega)
  have ex : F_X6_readNumber N I lo hi = xfin I1 lo hi (nI (deF tp 201 q)) (cvF tp 201 q 0) := by
    unfold F_X6_readNumber
    rw [e1]
    simp only [Option.bind_some, letb]
    rw [s1.2.1]
    exact x_numL ok s1.1 201 q 0 hq (by omega) N hN
  unfold xfin at ex
  simp only [letb] at ex
  rw [s1.good, if_neg n10, s1.2.1, nI_subN hd.1] at ex
  obtain ⟨I2, e2, s2, f2⟩ := x_blame s1
  rw [e2] at ex
  simp only [Option.bind_some] at ex
  constructor
  · rintro ⟨c1, c2⟩
    obtain ⟨g1, g2⟩ := num_cases ok c1
    rcases g2 with ⟨g2, g3⟩ | ⟨g2, g3⟩
    · refine ⟨up2 I1 80 2 (nI (deF tp 201 q)), ?_, ⟨s1.1.ft FT.s2, by rw [up2_s, tend_2 c1], by rw [tend_2 c1]; exact hd.2, by rw [up2_n _ _ (by omega)]; exact s1.2.2.2⟩, f1.tr FT.s2⟩
      rcases in0 (val tp q) lo hi rfl rfl with ⟨z, _⟩ | ⟨_, z⟩
      · rw [z] at c2; exact absurd c2 (by decide)
      · rw [ex, if_neg (show ¬ nI (deF tp 201 q - q) < 1 from nI_nlt (b := 1) (by omega) (by omega)), if_neg (show ¬ (2 : Int32) < nI (deF tp 201 q - q) from nI_nlt (a := 2) (by omega) (by decide)), g3, if_neg (by rw [Int32.lt_iff_toInt_lt]; omega), if_pos (by rw [Int32.le_iff_toInt_le]; omega)]
    · rw [g3] at c2
      rw [in2 (p := -1) (lo := lo) (hi := hi) rfl rfl (by rw [tm1]; omega)] at c2
      exact absurd c2 (by decide)
  · intro hc
    refine ⟨I2, ?_, s2, f1.tr f2⟩
    by_cases c1 : srt tp q = 2
    · obtain ⟨g1, g2⟩ := num_cases ok c1
      rw [ex, if_neg (show ¬ nI (deF tp 201 q - q) < 1 from nI_nlt (b := 1) (by omega) (by omega))]
      rcases g2 with ⟨g2, g3⟩ | ⟨g2, g3⟩
      · rw [if_neg (show ¬ (2 : Int32) < nI (deF tp 201 q - q) from nI_nlt (a := 2) (by omega) (by decide)), g3]
        by_cases z1 : val tp q < lo
        · rw [if_pos z1]
        · rw [if_neg z1]
          by_cases z2 : val tp q ≤ hi
          · exfalso
            apply hc
            refine ⟨c1, in1 rfl rfl ⟨?_, ?_⟩⟩
            · rw [Int32.lt_iff_toInt_lt] at z1; omega
            · rw [Int32.le_iff_toInt_le] at z2; omega
          · rw [if_neg z2]
      · rw [if_pos (show (2 : Int32) < nI (deF tp 201 q - q) from nI_lt (a := 2) (by omega) (by omega))]
    · have d0 : F_X12_in (tp q) 48 57 = 0 := Classical.byContradiction (fun z => c1 (srt_2.mpr z))
      have e0 : deF tp 201 q = q := deF_n d0
      rw [ex, e0, Nat.sub_self, if_pos (by decide)]
theorem x_num_f (hN : 201 ≤ N) (ok : TpOK n tp) {f : Nat} (h : XFl n tp I f) {lo hi : Int32} : ∃ I', F_X6_readNumber N I lo hi = some (0, I') ∧ XFl n tp I' f ∧ FT I I' := by
  have h200 := ok.1
  obtain ⟨I1, e1, s1, f1⟩ := x_skip_f hN ok h
  obtain ⟨-, ⟨q, hq, e2⟩, -⟩ := id s1
  refine ⟨I1, ?_, s1, f1⟩
  unfold F_X6_readNumber
  rw [e1]
  simp only [Option.bind_some, letb]
  rw [e2, x_numL ok s1.1 201 q 0 hq (by omega) N hN]
  unfold xfin
  simp only [letb]
  rw [s1.bad ok, if_pos rfl, x_blame_f ok s1]
  rfl
/-! signs -/
theorem x_sign (hN : 201 ≤ N) (ok : TpOK n tp) {p : Nat} (h : XS n tp I p) {c : Int32} (hc : c = 59 ∨ c = 45) : (tp (sk tp p) = c → ∃ I', F_X6_passSign N I c = some (1, I') ∧ XS n tp I' (sk tp p + 1) ∧ FT I I') ∧ (¬ tp (sk tp p) = c → ∃ I', F_X6_passSign N I c = some (0, I') ∧ XS n tp I' (sk tp p) ∧ FT I I') := by
  have h200 := ok.1
  obtain ⟨I1, e1, s1, f1⟩ := x_skip hN ok h
  have hq := s1.2.2.1
  generalize sk tp p = q at *
  have hcb : 0 ≤ c.toInt ∧ c.toInt ≤ 127 := by rcases hc with rfl | rfl <;> decide
  have ex : F_X6_passSign N I c = (if (nI n) ≤ (nI q) then (some (0, I1)) else (if inb (nI q) 200 = true then (if (I1 81 (nI q).toNatClampNeg) = c then (some (1, up2 I1 80 2 (nI q + 1))) else (some (0, I1))) else none)) := by
    unfold F_X6_passSign
    rw [e1]
    simp only [Option.bind_some, letb]
    rw [s1.good, if_neg n10, s1.1.1, s1.2.1]
  constructor
  · intro z
    have hlt : q < n := at_in ok (fun e => by rw [e] at z; rw [← z] at hcb; revert hcb; decide)
    refine ⟨up2 I1 80 2 (nI (q + 1)), ?_, ⟨s1.1.ft FT.s2, up2_s _ _ _ _, by omega, by rw [up2_n _ _ (by omega)]; exact s1.2.2.2⟩, f1.tr FT.s2⟩
    rw [ex, if_neg (nI_ge hlt (by omega)), if_pos (inbN (by omega) (by decide)), nI_clamp (by omega), if_pos ((by_eq (s1.1.2 q hlt) hcb).mpr z), nI_1]
  · intro z
    refine ⟨I1, ?_, s1, f1⟩
    rw [ex]
    by_cases w : q < n
    · rw [if_neg (nI_ge w (by omega)), if_pos (inbN (by omega) (by decide)), nI_clamp (by omega), if_neg (fun v => z ((by_eq (s1.1.2 q w) hcb).mp v))]
    · rw [if_pos (nI_le (by omega) (by omega))]
theorem x_sign_f (hN : 201 ≤ N) (ok : TpOK n tp) {f : Nat} (h : XFl n tp I f) {c : Int32} : ∃ I', F_X6_passSign N I c = some (0, I') ∧ XFl n tp I' f ∧ FT I I' := by
  obtain ⟨I1, e1, s1, f1⟩ := x_skip_f hN ok h
  refine ⟨I1, ?_, s1, f1⟩
  unfold F_X6_passSign
  rw [e1]
  simp only [Option.bind_some]
  rw [s1.bad ok, if_pos rfl]
theorem x_end (hN : 201 ≤ N) (ok : TpOK n tp) {p : Nat} (h : XS n tp I p) : (tp (sk tp p) = 59 → ∃ I', F_X6_passEnd N I = some I' ∧ XS n tp I' (sk tp p + 1) ∧ FT I I') ∧ (¬ tp (sk tp p) = 59 → ∃ I', F_X6_passEnd N I = some I' ∧ XFl n tp I' (sk tp p) ∧ FT I I') := by
  obtain ⟨a, b⟩ := x_sign hN ok h (c := 59) (Or.inl rfl)
  constructor
  · intro z
    obtain ⟨I1, e1, s1, f1⟩ := a z
    refine ⟨I1, ?_, s1, f1⟩
    unfold F_X6_passEnd
    rw [e1]
    rfl
  · intro z
    obtain ⟨I1, e1, s1, f1⟩ := b z
    obtain ⟨I2, e2, s2, f2⟩ := x_blame s1
    refine ⟨I2, ?_, s2, f1.tr f2⟩
    unfold F_X6_passEnd
    rw [e1]
    simp only [Option.bind_some, if_true]
    rw [e2]
    rfl
theorem x_end_f (hN : 201 ≤ N) (ok : TpOK n tp) {f : Nat} (h : XFl n tp I f) : ∃ I', F_X6_passEnd N I = some I' ∧ XFl n tp I' f ∧ FT I I' := by
  obtain ⟨I1, e1, s1, f1⟩ := x_sign_f hN ok h (c := 59)
  refine ⟨I1, ?_, s1, f1⟩
  unfold F_X6_passEnd
  rw [e1]
  simp only [Option.bind_some, if_true]
  rw [x_blame_f ok s1]
  rfl
end
