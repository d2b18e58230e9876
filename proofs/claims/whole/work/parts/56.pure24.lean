/-! fit -/
section
variable {s : Nat} {T : TM} {I I' : IM} {J : JM} {P P' : PM}
def fitS (off : Nat → Int32) : Nat → Nat → Int32 → Int32 → Int32
  | 0, _, b, _ => b
  | m + 1, v, b, l => if l ≤ off v then fitS off m (v + 1) b l else fitS off m (v + 1) (nI v) (off v)
/-- the laws with one of them tried -/
def lawV (L : Nat → Int32) (a v : Nat) : Nat → Int32 := fun j => if j = a then nI v else L j
theorem x_fitL {N : Nat} (hN : 400 < N) {n j k w len a : Nat} {h t : Int32} (hj : j < n) (hk : k < 36) (hg : F_X12_isLetGo h (nI k) t = 1) (ht : -9 ≤ t.toInt ∧ t.toInt ≤ 9) (hw : w < 4) (hlen : len ≤ 40) (ha : a < 6) {C L : Nat → Int32} : ∀ (m v : Nat) (b u : Int32) (I : IM) (P : PM), CR T I (P 66) (I 65 1) (I 101 0) (I 102) n → I 102 = C → (∀ j, j < 6 → j ≠ a → I 91 j = L j) → I (93 + 2 * w) 1 = nI len → v + m = 64 → ∀ f, m < f → ∃ I' P', G_X11_fit_86 N T J (93 + 2 * w) (nI j) h (nI k) t (nI a) f b u (nI v) I P = some (fitS (fun v => msJ C (lawV L a v) (J (94 + 2 * w)) j len h (nI k) t) m v b u, I', P') ∧ Sc I I' ∧ Ps P P' := by
  intro m
  induction m with
  | zero =>
    intro v b u I P hC e1 e2 e3 hv f hf
    obtain ⟨f, rfl⟩ : ∃ g, f = g + 1 := ⟨f - 1, by omega⟩
    refine ⟨I, P, ?_, Sc.re _, Ps.re _⟩
    rw [G_X11_fit_86, if_pos (by rw [show v = 64 by omega]; decide)]
    rfl
  | succ m ih =>
    intro v b u I P hC e1 e2 e3 hv f hf
    obtain ⟨f, rfl⟩ : ∃ g, f = g + 1 := ⟨f - 1, by omega⟩
    have n63 : ¬ (63 : Int32) < nI v := nI_nlt (a := 63) (b := v) (by omega) (by decide)
    have sc0 : Sc I (up2 I 91 a (nI v)) := Sc.of1 (a := 91) (by decide) (by decide) (fun x hx => up2_oth _ _ _ hx)
    obtain ⟨c, I1, hc, hr, eb, f1, f2, q⟩ := b_go (hC.sc sc0 (Ps.re P)) (a := 89) (by decide) (j := j) hj hg
    have hrc := hr.1
    have hcr := hr.fr (fun x hx _ => f1 x (by omega))
    have z102 : (up2 I 91 a (nI v)) 102 = C := by rw [up2_oth _ _ _ (by decide)]; exact e1
    rw [z102] at hcr f2
    have hL : EqL (I1 91) (lawV L a v) := fun i hi => by
      rw [f1 91 (by decide), up2_row]
      show (if i = a then nI v else I 91 i) = if i = a then nI v else L i
      by_cases z : i = a
      · rw [if_pos z, if_pos z]
      · rw [if_neg z, if_neg z]; exact e2 i hi z
    obtain ⟨I2, e4, l1⟩ := x_missL (N := N) (T := T) (J := J) (P := up2 P 89 0 (some c)) (c := c) (b := 91) (w := 93 + 2 * w) (len := len) (L := lawV L a v) (wt := C (4 * j + 1)) (up2_s _ _ _ _) hcr.2.1 hcr.2.2.1 hcr.1 hcr.wd0.1 (by decide) (by omega) hlen len 0 0 0 I1 (VF.congr q.sy (st0_VF hk rfl ht)) (by omega) (by omega) f2 hcr.2.2.2.2.2.1 hcr.2.2.2.2.2.2.1 hL (by rw [f1 _ (by omega), up2_oth _ _ _ (by omega)]; exact e3) N (by omega)
    rw [msF_A _ _ _ q.a, show 93 + 2 * w + 1 = 94 + 2 * w by omega] at e4
    have e4' : F_X11_missOf N T I1 J (up2 P 89 0 (some c)) 89 (93 + 2 * w) 91 = some (msJ C (lawV L a v) (J (94 + 2 * w)) j len h (nI k) t, I2) := e4
    have sc1 : Sc I I2 := sc0.tr (Sc.of1 (a := 89) (by decide) (by decide) (fun x hx => (l1 x hx).trans (f1 x hx)))
    have hC2 := hC.sc sc1 (Ps.s89 (c := some c))
    have s2 : I2 102 = C := by rw [sc1.1 102 (by decide) (by decide)]; exact e1
    have s3 : ∀ i, i < 6 → i ≠ a → I2 91 i = L i := fun i hi z => by
      rw [l1 91 (by decide), hL i hi]
      exact if_neg z
    have s4 : I2 (93 + 2 * w) 1 = nI len := by rw [l1 _ (by omega), f1 _ (by omega), up2_oth _ _ _ (by omega)]; exact e3
    rw [G_X11_fit_86, if_neg n63, if_pos (inbN ha (by decide)), nI_clamp (by omega)]
    simp only [letb]
    rw [eb]
    simp only [Option.bind_some]
    rw [e4']
    simp only [Option.bind_some]
    rw [nI_1]
    unfold fitS
    by_cases d : u ≤ msJ C (lawV L a v) (J (94 + 2 * w)) j len h (nI k) t
    · rw [if_pos d, if_pos d]
      obtain ⟨I3, P3, e5, sc3, ps3⟩ := ih (v + 1) b u I2 (up2 P 89 0 (some c)) hC2 s2 s3 s4 (by omega) f (by omega)
      exact ⟨I3, P3, e5, sc1.tr sc3, Ps.s89.tr ps3⟩
    · rw [if_neg d, if_neg d]
      obtain ⟨I3, P3, e5, sc3, ps3⟩ := ih (v + 1) (nI v) (msJ C (lawV L a v) (J (94 + 2 * w)) j len h (nI k) t) I2 (up2 P 89 0 (some c)) hC2 s2 s3 s4 (by omega) f (by omega)
      exact ⟨I3, P3, e5, sc1.tr sc3, Ps.s89.tr ps3⟩
/-- all but one law kept -/
def ScL (I I' : IM) : Prop := (∀ x, x ∉ scr → x ≠ 101 → x ≠ 103 → I' x = I x) ∧ ∀ i, i ∉ scm → I' 101 i = I 101 i
theorem m_fitL {N : Nat} (hN : 400 < N) {j k w len a : Nat} {h t was : Int32} (hj : j < 6) (hk : k < 36) (ht : -9 ≤ t.toInt ∧ t.toInt ≤ 9) (hw : w < 4) (hlen : len ≤ 40) (ha : a < 6) {C L : Nat → Int32} (hwd : ¬ C (4 * j + 2) = 0) (hS : ∀ k, k < 40 → small (J 117 (40 * w + k))) : ∀ (m v : Nat) (b u : Int32) (I : IM), SinOK (I 105) → I 102 = C → (∀ i, i ≠ a → I 103 i = L i) → I 116 w = nI len → 0 ≤ u.toInt → v + m = 64 → ∀ f, m < f → ∃ I', G_X12_fit_65 N J (nI j) h (nI k) t (nI w) (nI a) was f b u (nI v) I = some (fitS (fun v => msJ C (lawV L a v) (fun k => J 117 (40 * w + k)) j len h (nI k) t) m v b u, I') ∧ ScL I I' ∧ ∀ i, I' 103 i = if i = a then was else L i := by
  intro m
  induction m with
  | zero =>
    intro v b u I hs e1 e2 e3 hu hv f hf
    obtain ⟨f, rfl⟩ : ∃ g, f = g + 1 := ⟨f - 1, by omega⟩
    refine ⟨up2 I 103 a was, ?_, ⟨fun x _ _ h3 => up2_oth _ _ _ h3, fun i _ => by rw [up2_oth _ _ _ (by decide)]⟩, fun i => ?_⟩
    · rw [G_X12_fit_65, if_pos (by rw [show v = 64 by omega]; decide), if_pos (inbN ha (by decide)), nI_clamp (by omega)]
      rfl
    · rw [up2_row]
      show (if i = a then was else I 103 i) = _
      by_cases z : i = a
      · rw [if_pos z, if_pos z]
      · rw [if_neg z, if_neg z, e2 i z]
  | succ m ih =>
    intro v b u I hs e1 e2 e3 hu hv f hf
    obtain ⟨f, rfl⟩ : ∃ g, f = g + 1 := ⟨f - 1, by omega⟩
    have n64 : ¬ (64 : Int32) ≤ nI v := nI_ge (a := v) (b := 64) (by omega) (by decide)
    have u0 : ¬ u < 0 := by rw [Int32.lt_iff_toInt_lt]; simp only [Int32.reduceToInt]; omega
    have z103 : (up2 I 103 a (nI v)) 103 = lawV L a v := by
      rw [up2_row]
      funext i
      show (if i = a then nI v else I 103 i) = if i = a then nI v else L i
      by_cases z : i = a
      · rw [if_pos z, if_pos z]
      · rw [if_neg z, if_neg z, e2 i z]
    have z102 : (up2 I 103 a (nI v)) 102 = C := by rw [up2_oth _ _ _ (by decide)]; exact e1
    obtain ⟨I1, e4, sc1⟩ := m_missR (I := up2 I 103 a (nI v)) (J := J) (N := N) hN (j := j) (k := k) (q := w) (len := len) (h := h) (s' := nI k) (t := t) (by rw [up2_oth _ _ _ (by decide)]; exact hs) hj (by rw [z102]; exact hwd) hk rfl ht hw hlen (by rw [up2_oth _ _ _ (by decide)]; exact e3) hS
    rw [z102, z103] at e4
    have b1 := msJ_bd (C := C) (L := lawV L a v) (S := fun k => J 117 (40 * w + k)) (j := j) (h := h) hk rfl ht hlen hS
    have scl : ScL I I1 := ⟨fun x h1 h2 h3 => by rw [sc1.1 x h1 h2, up2_oth _ _ _ h3], fun i hi => by rw [sc1.2 i hi, up2_oth _ _ _ (by decide)]⟩
    have s1 : SinOK (I1 105) := sc1.sin (by rw [up2_oth _ _ _ (by decide)]; exact hs)
    have s2 : I1 102 = C := by rw [sc1.1 102 (by decide) (by decide)]; exact z102
    have s3 : ∀ i, i ≠ a → I1 103 i = L i := fun i z => by
      rw [sc1.1 103 (by decide) (by decide), z103]
      exact if_neg z
    have s4 : I1 116 w = nI len := by rw [sc1.1 116 (by decide) (by decide), up2_oth _ _ _ (by decide)]; exact e3
    rw [G_X12_fit_65, if_neg n64, if_pos (inbN ha (by decide)), nI_clamp (by omega)]
    simp only [letb]
    rw [e4]
    simp only [Option.bind_some]
    rw [nI_1, if_neg u0]
    unfold fitS
    by_cases d : u ≤ msJ C (lawV L a v) (fun k => J 117 (40 * w + k)) j len h (nI k) t
    · rw [if_pos d, if_pos d]
      obtain ⟨I2, e5, sc2, l2⟩ := ih (v + 1) b u I1 s1 s2 s3 s4 hu (by omega) f (by omega)
      exact ⟨I2, e5, ⟨fun x h1 h2 h3 => (sc2.1 x h1 h2 h3).trans (scl.1 x h1 h2 h3), fun i hi => (sc2.2 i hi).trans (scl.2 i hi)⟩, l2⟩
    · rw [if_neg d, if_neg d]
      obtain ⟨I2, e5, sc2, l2⟩ := ih (v + 1) (nI v) (msJ C (lawV L a v) (fun k => J 117 (40 * w + k)) j len h (nI k) t) I1 s1 s2 s3 s4 b1.1 (by omega) f (by omega)
      exact ⟨I2, e5, ⟨fun x h1 h2 h3 => (sc2.1 x h1 h2 h3).trans (scl.1 x h1 h2 h3), fun i hi => (sc2.2 i hi).trans (scl.2 i hi)⟩, l2⟩
theorem m_fit0 {N : Nat} (hN : 400 < N) {j k w len a : Nat} {h t was : Int32} (hj : j < 6) (hk : k < 36) (ht : -9 ≤ t.toInt ∧ t.toInt ≤ 9) (hw : w < 4) (hlen : len ≤ 40) (ha : a < 6) {C L : Nat → Int32} (hwd : ¬ C (4 * j + 2) = 0) (hS : ∀ k, k < 40 → small (J 117 (40 * w + k))) (hs : SinOK (I 105)) (e1 : I 102 = C) (e2 : ∀ i, i ≠ a → I 103 i = L i) (e3 : I 116 w = nI len) : ∃ I', G_X12_fit_65 N J (nI j) h (nI k) t (nI w) (nI a) was N 0 (-1) 0 I = some (fitS (fun v => msJ C (lawV L a v) (fun k => J 117 (40 * w + k)) j len h (nI k) t) 64 0 0 999999999, I') ∧ ScL I I' ∧ ∀ i, I' 103 i = if i = a then was else L i := by
  obtain ⟨N', rfl⟩ : ∃ g, N = g + 1 := ⟨N - 1, by omega⟩
  have z103 : (up2 I 103 a (nI 0)) 103 = lawV L a 0 := by
    rw [up2_row]
    funext i
    show (if i = a then nI 0 else I 103 i) = if i = a then nI 0 else L i
    by_cases z : i = a
    · rw [if_pos z, if_pos z]
    · rw [if_neg z, if_neg z, e2 i z]
  have z102 : (up2 I 103 a (nI 0)) 102 = C := by rw [up2_oth _ _ _ (by decide)]; exact e1
  obtain ⟨I1, e4, sc1⟩ := m_missR (I := up2 I 103 a (nI 0)) (J := J) (N := N' + 1) hN (j := j) (k := k) (q := w) (len := len) (h := h) (s' := nI k) (t := t) (by rw [up2_oth _ _ _ (by decide)]; exact hs) hj (by rw [z102]; exact hwd) hk rfl ht hw hlen (by rw [up2_oth _ _ _ (by decide)]; exact e3) hS
  rw [z102, z103] at e4
  have b1 := msJ_bd (C := C) (L := lawV L a 0) (S := fun k => J 117 (40 * w + k)) (j := j) (h := h) hk rfl ht hlen hS
  have scl : ScL I I1 := ⟨fun x h1 h2 h3 => by rw [sc1.1 x h1 h2, up2_oth _ _ _ h3], fun i hi => by rw [sc1.2 i hi, up2_oth _ _ _ (by decide)]⟩
  obtain ⟨I2, e5, sc2, l2⟩ := m_fitL (N := N' + 1) (J := J) hN (h := h) (was := was) (L := L) hj hk ht hw hlen ha hwd hS 63 1 (nI 0) (msJ C (lawV L a 0) (fun k => J 117 (40 * w + k)) j len h (nI k) t) I1 (sc1.sin (by rw [up2_oth _ _ _ (by decide)]; exact hs)) (by rw [sc1.1 102 (by decide) (by decide)]; exact z102) (fun i z => by
    rw [sc1.1 103 (by decide) (by decide), z103]
    exact if_neg z) (by rw [sc1.1 116 (by decide) (by decide), up2_oth _ _ _ (by decide)]; exact e3) b1.1 rfl N' (by omega)
  refine ⟨I2, ?_, ⟨fun x h1 h2 h3 => (sc2.1 x h1 h2 h3).trans (scl.1 x h1 h2 h3), fun i hi => (sc2.2 i hi).trans (scl.2 i hi)⟩, l2⟩
  have eS : fitS (fun v => msJ C (lawV L a v) (fun k => J 117 (40 * w + k)) j len h (nI k) t) 64 0 0 999999999 = fitS (fun v => msJ C (lawV L a v) (fun k => J 117 (40 * w + k)) j len h (nI k) t) 63 1 (nI 0) (msJ C (lawV L a 0) (fun k => J 117 (40 * w + k)) j len h (nI k) t) := by
    conv => lhs; unfold fitS
    by_cases d : (999999999 : Int32) ≤ msJ C (lawV L a 0) (fun k => J 117 (40 * w + k)) j len h (nI k) t
    · have : msJ C (lawV L a 0) (fun k => J 117 (40 * w + k)) j len h (nI k) t = 999999999 := by
        rw [Int32.le_iff_toInt_le, show (999999999 : Int32).toInt = 999999999 from rfl] at d
        exact Int32.toInt_inj.mp (by rw [show (999999999 : Int32).toInt = 999999999 from rfl]; omega)
      rw [if_pos d, this]
      rfl
    · rw [if_neg d]
  rw [eS, ← e5, G_X12_fit_65, if_neg (by decide), if_pos (inbN ha (by decide)), nI_clamp (by omega)]
  simp only [letb]
  rw [show (0 : Int32) = nI 0 from rfl, e4]
  simp only [Option.bind_some]
  rw [if_pos (by decide), nI_1]
theorem q_fit {N : Nat} (hN : 400 < N) (r : Rel s T I J P) (p1 p2 p3 p4 p5 p6 : Int32) : ∃ v I1 I2 P1, F_X11_fit N T I J P p1 p2 p3 p4 p5 p6 = some (v, I1, P1) ∧ F_X12_fit N I1 J p1 p2 p3 p4 p5 p6 = some (v, I2) ∧ Rel s T I2 J P1 := by
  obtain ⟨n, hC, hz, hL, hH, hA⟩ := r.now
  have h6 := hC.1
  rcases in0 p6 0 5 (a := 0) (b := 5) rfl rfl with ⟨g6, h⟩ | ⟨g6, h⟩
  · have hx : F_X11_fit N T I J P p1 p2 p3 p4 p5 p6 = some (-1, I, P) := by
      unfold F_X11_fit
      simp only [Int32.lt_iff_toInt_lt, Int32.le_iff_toInt_le, Int32.reduceToInt]
      by_cases a1 : p6.toInt < 0
      · rw [if_pos a1]
      · rw [if_neg a1, if_pos (by omega)]
    refine ⟨-1, I, I, P, hx, ?_, r⟩
    unfold F_X12_fit F_X12_isLaw
    rw [g6]
    simp
  · have ex0 : F_X11_fit N T I J P p1 p2 p3 p4 p5 p6 = ((F_X11_begin T I P 89 p1 p2 p3 p4).bind (fun x3 => (if x3.1 = 0 then (some ((-1), x3.2.1, x3.2.2)) else ((F_X11_sheetAt x3.2.2 p5).bind (fun x5 => (osel x5 (letb (F_X11_filmRefusal x3.2.1 none) (fun y7 : Int32 => (some (y7, x3.2.1, x3.2.2)))) (fun c6 => (if isSb c6 = true then (letb (F_X11_filmRefusal x3.2.1 (some c6)) (fun y9 : Int32 => (if 0 ≤ y9 then (letb (va_up x3.2.1 91 (va_cpy (x3.2.1 67) (x3.2.1 91) 0 0 6)) (fun I11 : IM => (G_X11_fit_86 N T J c6 p1 p2 p3 p4 p6 N 0 999999999 0 I11 x3.2.2))) else (some (y9, x3.2.1, x3.2.2))))) else none)))))))) := by
      unfold F_X11_fit
      simp only [Int32.lt_iff_toInt_lt, Int32.le_iff_toInt_le, Int32.reduceToInt]
      rw [if_neg (by omega), if_neg (by omega)]
    rcases b_begin hC (a := 89) (by decide) p1 p2 p3 p4 with ⟨g1, g2⟩ | ⟨g1, j, k, c, Ib, hj, hp, hk, hs, ht, hc, hr, e2, f1, f2, q⟩
    · refine ⟨-1, I, I, P, ?_, ?_, r⟩
      · rw [ex0, g2]; rfl
      · unfold F_X12_fit; rw [g1]; rfl
    · subst hp
      subst hs
      have hlg := (isFall_1 g1).2
      have sc0 : Sc I Ib := Sc.of1 (a := 89) (by decide) (by decide) f1
      have r0 : Rel s T Ib J (up2 P 89 0 (some c)) := r.sc sc0 Ps.s89
      have gf : ∀ Im : IM, Im 101 0 = I 101 0 → F_X12_isFall Im (nI j) p2 (nI k) p4 = 1 := fun Im h => by
        rw [← g1]
        unfold F_X12_isFall F_X12_isCard
        rw [h]
      rw [e2] at ex0
      simp only [Option.bind_some] at ex0
      rw [if_neg n10] at ex0
      rcases sheet_cases r0.shp p5 with ⟨g, e⟩ | ⟨g, w, hw, rfl, e⟩
      · refine ⟨-1, Ib, Ib, up2 P 89 0 (some c), ?_, ?_, r0⟩
        · rw [ex0, e]
          rfl
        · unfold F_X12_fit
          rw [gf Ib (sc0.2 0 (by decide)), if_neg n10, g]
          rfl
      · have hsh := r0.sh w hw
        rw [e] at ex0
        simp only [Option.bind_some] at ex0
        rw [osel_s rfl, if_pos (isSb_q hw)] at ex0
        simp only [letb] at ex0
        rcases film_cases hw hsh with ⟨a1, a2, a3⟩ | ⟨v, a0, a1, a2, a3⟩
        · obtain ⟨h1, h2, ⟨len, hlen, h3, h4⟩, h5⟩ := hsh
          obtain ⟨a, ha, rfl⟩ : ∃ a, a < 6 ∧ p6 = nI a := ⟨p6.toInt.toNat, by omega, of_nat h.1⟩
          have sc1 : Sc I (va_up Ib 91 (va_cpy (Ib 67) (Ib 91) 0 0 6)) := sc0.tr (Sc.of1 (a := 91) (by decide) (by decide) (fun x hx => va_up_ne _ _ hx))
          obtain ⟨I1, P1, e3, sc2, ps2⟩ := x_fitL (T := T) (J := J) (N := N) hN (C := I 102) (L := I 103) (h := p2) hj hk hlg ht hw hlen ha 64 0 0 999999999 (va_up Ib 91 (va_cpy (Ib 67) (Ib 91) 0 0 6)) (up2 P 89 0 (some c)) (hC.sc sc1 Ps.s89) (sc1.1 102 (by decide) (by decide)) (fun i hi _ => by
            rw [va_up_self, cpy_at hi, f1 67 (by decide)]
            exact hL i hi) (by rw [va_up_ne _ _ (by omega)]; exact h4) rfl N (by omega)
          have sc3 := sc1.tr sc2
          have hS : ∀ k, k < 40 → small (J 117 (40 * w + k)) := fun k hk => by
            have e : J (94 + 2 * w) k = J 117 (40 * w + k) := (h5 k hk).1
            rw [← e]
            exact (h5 k hk).2
          have z116 : I1 116 w = nI len := by rw [sc3.1 116 (by decide) (by decide), ← sc0.1 116 (by decide) (by decide)]; exact h3
          have z103 : I1 103 = I 103 := sc3.1 103 (by decide) (by decide)
          obtain ⟨I2, e4, scl, l2⟩ := m_fit0 (I := I1) (J := J) (N := N) hN (j := j) (h := p2) (t := p4) (was := I 103 a) (C := I 102) (L := I 103) (by omega) hk ht hw hlen ha hr.wd0.2 hS (sc3.sin r.sin) (sc3.1 102 (by decide) (by decide)) (fun i _ => by rw [z103]) z116
          have l3 : I2 103 = I1 103 := by
            funext i
            rw [l2 i, z103]
            by_cases z : i = a
            · rw [if_pos z, z]
            · rw [if_neg z]
          have sc4 : Sc I1 I2 := ⟨fun x h1 h2 => by
            by_cases z : x = 103
            · rw [z]; exact l3
            · exact scl.1 x h1 h2 z, scl.2⟩
          have eo : (fun v => msJ (I 102) (lawV (I 103) a v) (J (94 + 2 * w)) j len p2 (nI k) p4) = fun v => msJ (I 102) (lawV (I 103) a v) (fun k => J 117 (40 * w + k)) j len p2 (nI k) p4 := by
            funext v
            unfold msJ
            rw [msF_S len 0 _ _ (by omega) (fun k hk => (h5 k hk).1)]
          rw [eo] at e3
          refine ⟨fitS (fun v => msJ (I 102) (lawV (I 103) a v) (fun k => J 117 (40 * w + k)) j len p2 (nI k) p4) 64 0 0 999999999, I1, I2, P1, ?_, ?_, r.sc (sc3.tr sc4) (Ps.s89.tr ps2)⟩
          · rw [ex0, a2, if_pos (by decide)]
            exact e3
          · have a3' : F_X12_lacksSort I1 (nI w) 2 = some 0 := by
              rw [← a3]
              unfold F_X12_lacksSort
              rw [sc3.1 115 (by decide) (by decide), ← sc0.1 115 (by decide) (by decide)]
            unfold F_X12_fit F_X12_isLaw
            rw [gf I1 (sc3.2 0 (by decide)), if_neg n10, g, if_neg n10, g6, if_neg n10, a3']
            simp only [Option.bind_some, if_true, letb]
            rw [if_pos (inbN ha (by decide)), nI_clamp (by omega), z103]
            exact e4
        · refine ⟨v, Ib, Ib, up2 P 89 0 (some c), ?_, ?_, r0⟩
          · rw [ex0, a2, if_neg a0]
          · unfold F_X12_fit F_X12_isLaw
            rw [gf Ib (sc0.2 0 (by decide)), if_neg n10, g, if_neg n10, g6, if_neg n10, a3]
            simp only [Option.bind_some]
            rw [if_neg a1]
end
