/-! miss -/
section
variable {s : Nat} {T : TM} {I I' : IM} {J : JM} {P P' : PM}
def ab64 (d : Int64) : Int64 := if 0 < d then d else -d
def mnF (u : Int64) : Int32 := Int64.toInt32 (if 999999999 < u then 999999999 else u)
theorem t64_0 : (0 : Int64).toInt = 0 := rfl
theorem t64_9 : (999999999 : Int64).toInt = 999999999 := by decide
theorem sub64 {a b : Int64} (ha : small a) (hb : small b) : (a - b).toInt = a.toInt - b.toInt := by
  unfold small at ha hb
  rw [Int64.toInt_sub, Int.bmod_eq_of_le (by omega) (by omega)]
theorem ab_ref {a b u : Int64} (ha : small a) (hb : small b) {α : Type} (F : Int64 → α) : (if 0 ≤ (lg_cmp (a - b) 0) then F (u + (a - b)) else F (u + (-(a - b)))) = F (u + ab64 (b - a)) := by
  have e1 := sub64 ha hb
  have e2 := sub64 hb ha
  unfold lg_cmp ab64
  by_cases h : b.toInt - a.toInt > 0
  · have h1 : ¬ a - b > 0 := by show ¬ 0 < a - b; rw [Int64.lt_iff_toInt_lt, t64_0]; omega
    have h2 : ¬ a - b = 0 := fun z => by rw [z, t64_0] at e1; omega
    have h3 : 0 < b - a := by rw [Int64.lt_iff_toInt_lt, t64_0]; omega
    rw [if_neg h1, if_neg h2, if_neg (by decide), if_pos h3, Int64.neg_sub]
  · have h3 : ¬ 0 < b - a := by rw [Int64.lt_iff_toInt_lt, t64_0]; omega
    rw [if_neg h3, show -(b - a) = a - b from Int64.neg_sub]
    by_cases h1 : a - b > 0
    · rw [if_pos h1, if_pos (by decide)]
    · have h1' : ¬ 0 < a - b := h1
      rw [Int64.lt_iff_toInt_lt, t64_0] at h1'
      have h2 : a - b = 0 := Int64.toInt_inj.mp (by rw [t64_0]; omega)
      rw [if_neg h1, if_pos h2, if_pos (by decide)]
theorem mn_ref {u : Int64} {β : Type} {x : β} : (if (lg_cmp u 999999999) ≤ 0 then (some ((Int64.toInt32 u), x)) else (some (999999999, x))) = some (mnF u, x) := by
  unfold lg_cmp mnF
  by_cases h : (999999999 : Int64) < u
  · have h1 : u > 999999999 := h
    rw [if_pos h1, if_neg (by decide), if_pos h]
    rfl
  · have h1 : ¬ u > 999999999 := h
    rw [if_neg h1, if_neg h]
    by_cases h2 : u = 999999999
    · rw [if_pos h2, if_pos (by decide)]
    · rw [if_neg h2, if_pos (by decide)]
section
variable {kd wt wd cl : Int32} {L M : Nat → Int32}
def msF (kd wt wd cl : Int32) (L : Nat → Int32) (S : Nat → Int64) : Nat → Nat → (Nat → Int32) → Int64 → Int64
  | 0, _, _, u => u
  | m + 1, i, φ, u => if 0 < φ 4 then msF kd wt wd cl L S m (i + 1) (fstep kd wt wd cl L φ) (u + ab64 (S i - Int32.toInt64 (fstep kd wt wd cl L φ 3))) else u
theorem msF_A {S : Nat → Int64} : ∀ (m i : Nat) (u : Int64) {φ ψ : Nat → Int32}, EqA φ ψ → msF kd wt wd cl L S m i φ u = msF kd wt wd cl L S m i ψ u := by
  intro m
  induction m with
  | zero => intro i u φ ψ h; rfl
  | succ m ih =>
    intro i u φ ψ h
    unfold msF
    rw [h 4 (by decide) (by decide), fstepA h 3 (by decide) (by decide), ih _ _ (fstepA h)]
theorem msF_L {S : Nat → Int64} (h : EqL L M) : ∀ (m i : Nat) (u : Int64) (φ : Nat → Int32), msF kd wt wd cl L S m i φ u = msF kd wt wd cl M S m i φ u := by
  intro m
  induction m with
  | zero => intro i u φ; rfl
  | succ m ih => intro i u φ; unfold msF; rw [fstep_L h, ih]
theorem msF_S {S R : Nat → Int64} : ∀ (m i : Nat) (u : Int64) (φ : Nat → Int32), i + m ≤ 40 → (∀ k, k < 40 → S k = R k) → msF kd wt wd cl L S m i φ u = msF kd wt wd cl L R m i φ u := by
  intro m
  induction m with
  | zero => intro i u φ _ _; rfl
  | succ m ih => intro i u φ hi h; unfold msF; rw [h i (by omega), ih _ _ _ (by omega) h]
theorem ab_bd {d : Int64} (h : -4294967296 ≤ d.toInt ∧ d.toInt ≤ 4294967296) : 0 ≤ (ab64 d).toInt ∧ (ab64 d).toInt ≤ 4294967296 := by
  unfold ab64
  by_cases h1 : 0 < d
  · rw [if_pos h1]
    rw [Int64.lt_iff_toInt_lt, t64_0] at h1
    omega
  · rw [if_neg h1]
    rw [Int64.lt_iff_toInt_lt, t64_0] at h1
    rw [Int64.toInt_neg, Int.bmod_eq_of_le (by omega) (by omega)]
    omega
theorem msF_bd {S : Nat → Int64} (hS : ∀ k, k < 40 → small (S k)) : ∀ (m i n : Nat) (φ : Nat → Int32) (u : Int64), VF n φ → n + m ≤ 400 → i + m ≤ 40 → 0 ≤ u.toInt → u.toInt + 4294967296 * m ≤ 1125899906842624 → 0 ≤ (msF kd wt wd cl L S m i φ u).toInt ∧ (msF kd wt wd cl L S m i φ u).toInt ≤ 1125899906842624 := by
  intro m
  induction m with
  | zero =>
    intro i n φ u v hn hi h0 h1
    exact ⟨h0, by show u.toInt ≤ _; omega⟩
  | succ m ih =>
    intro i n φ u v hn hi h0 h1
    unfold msF
    by_cases h4 : 0 < φ 4
    · rw [if_pos h4]
      have v1 := v.step (kd := kd) (wt := wt) (wd := wd) (cl := cl) (L := L) (by omega)
      have b3 := v1.2.2.2.2.2
      have hs := hS i (by omega)
      have hs2 := hs
      unfold small at hs2
      have ed : (S i - Int32.toInt64 (fstep kd wt wd cl L φ 3)).toInt = (S i).toInt - (fstep kd wt wd cl L φ 3).toInt := by rw [sub64 hs (small_64 _), Int32.toInt_toInt64]
      have ha := ab_bd (d := S i - Int32.toInt64 (fstep kd wt wd cl L φ 3)) (by omega)
      generalize ab64 (S i - Int32.toInt64 (fstep kd wt wd cl L φ 3)) = w at *
      have eu : (u + w).toInt = u.toInt + w.toInt := by rw [Int64.toInt_add, Int.bmod_eq_of_le (by omega) (by omega)]
      exact ih (i + 1) (n + 1) _ _ v1 (by omega) (by omega) (by omega) (by omega)
    · rw [if_neg h4]
      exact ⟨h0, by omega⟩
theorem mn_bd {u : Int64} (h0 : 0 ≤ u.toInt) (h1 : u.toInt ≤ 1125899906842624) : 0 ≤ (mnF u).toInt ∧ (mnF u).toInt ≤ 999999999 := by
  unfold mnF
  by_cases h : (999999999 : Int64) < u
  · rw [if_pos h]
    decide
  · rw [if_neg h]
    rw [Int64.lt_iff_toInt_lt, t64_9] at h
    rw [Int64.toInt_toInt32, Int.bmod_eq_of_le (by omega) (by omega)]
    omega
theorem x_missL {N : Nat} {T : TM} {J : JM} {P : PM} {c b w len : Nat} (hP : P 89 0 = some c) (hc : isF T c = true) (hK : kmapR (T.2.1 c) kd) (hca : 124 ≤ c) (hw : ¬ wd ≤ 0) (hb : b ≠ 89) (hw9 : w ≠ 89) (hlen : len ≤ 40) : ∀ (m i n : Nat) (u : Int64) (I : IM), VF n (I 89) → n + m < 300000 → i + m = len → I 89 1 = wt → I c 2 = wd → I c 3 = cl → EqL (I b) L → I w 1 = nI len → ∀ f, m < f → ∃ I', G_X11_missOf_5 N T J P 89 w b f u (nI i) I = some (mnF (msF kd wt wd cl L (J (w + 1)) m i (I 89) u), I') ∧ ∀ x, x ≠ 89 → I' x = I x := by
  intro m
  induction m with
  | zero =>
    intro i n u I v hn hi e1 e2 e3 e4 e5 f hf
    obtain ⟨f, rfl⟩ : ∃ g, f = g + 1 := ⟨f - 1, by omega⟩
    refine ⟨I, ?_, fun _ _ => rfl⟩
    rw [G_X11_missOf_5, e5, if_pos (nI_le (by omega) (by omega))]
    rfl
  | succ m ih =>
    intro i n u I v hn hi e1 e2 e3 e4 e5 f hf
    obtain ⟨f, rfl⟩ : ∃ g, f = g + 1 := ⟨f - 1, by omega⟩
    rw [G_X11_missOf_5, e5, if_neg (nI_ge (by omega) (by omega))]
    unfold msF
    by_cases h4 : 0 < I 89 4
    · have hl : F_X1_landed I 89 = 0 := by unfold F_X1_landed; rw [if_pos h4]
      obtain ⟨I1, hI1, f1, hrow, v1⟩ := x_tick (b := b) hP hc hK (by rw [e2]; exact hw) hb (by omega) v (by omega)
      rw [e1, e2, e3, fstep_L e4] at hrow
      obtain ⟨I2, hI2, g1⟩ := ih (i + 1) (n + 1) (u + ab64 (J (w + 1) i - Int32.toInt64 (I1 89 3))) I1 v1 (by omega) (by omega) (by rw [hrow, fstep_1]; exact e1) (by rw [f1 c (by omega)]; exact e2) (by rw [f1 c (by omega)]; exact e3) (by rw [f1 b hb]; exact e4) (by rw [f1 w hw9]; exact e5) f (by omega)
      refine ⟨I2, ?_, fun x hx => (g1 x hx).trans (f1 x hx)⟩
      rw [if_pos hl, hI1, if_pos h4, ← hrow, ← hI2]
      simp only [Option.bind_some]
      rw [if_pos (inbN (by omega) (by decide)), nI_clamp (by omega), nI_1]
      rfl
    · have hl : F_X1_landed I 89 = 1 := by unfold F_X1_landed; rw [if_neg h4]
      refine ⟨I, ?_, fun _ _ => rfl⟩
      rw [hl, if_neg (by decide), if_neg h4]
      rfl
theorem m_missL {N : Nat} {I : IM} {J : JM} {q len : Nat} (hq : q < 4) (hlen : len ≤ 40) (h116 : I 116 q = nI len) (hS : ∀ k, k < 40 → small (J 117 (40 * q + k))) : ∀ (m k : Nat) (φ : Nat → Int32) (u : Int64), k + m = 400 → k ≤ len → (∀ t, t < cntF kd wt wd cl L m φ → I 111 (k + t) = itF kd wt wd cl L (t + 1) φ 3) → ∀ f, m < f → G_X12_missOf_21 N I J (nI q) (nI (k + cntF kd wt wd cl L m φ)) f u (nI k) = some (mnF (msF kd wt wd cl L (fun k => J 117 (40 * q + k)) (len - k) k φ u), I) := by
  intro m
  induction m with
  | zero => intro k φ u hk hl h1 f hf; omega
  | succ m ih =>
    intro k φ u hk hl h1 f hf
    obtain ⟨f, rfl⟩ : ∃ g, f = g + 1 := ⟨f - 1, by omega⟩
    rw [G_X12_missOf_21, if_pos (inb4 hq), clamp4 hq, h116]
    by_cases h4 : 0 < φ 4
    · have hc1 : cntF kd wt wd cl L (m + 1) φ = cntF kd wt wd cl L m (fstep kd wt wd cl L φ) + 1 := if_pos h4
      have hle := cntF_le (kd := kd) (wt := wt) (wd := wd) (cl := cl) (L := L) m (fstep kd wt wd cl L φ)
      rw [hc1] at h1 ⊢
      rw [if_neg (nI_ge (by omega) (by omega))]
      by_cases he : k = len
      · subst he
        rw [if_pos (nI_le (by omega) (by omega)), Nat.sub_self]
        exact mn_ref
      · obtain ⟨d, hd⟩ : ∃ d, len - k = d + 1 := ⟨len - k - 1, by omega⟩
        have ix := sh_idx q hq k (by omega)
        rw [if_neg (nI_ge (by omega) (by omega)), if_pos (inbN (by omega) (by decide)), if_pos ix.1, ix.2, nI_clamp (by omega), hd]
        have q1 : I 111 k = fstep kd wt wd cl L φ 3 := h1 0 (by omega)
        rw [q1]
        simp only [letb]
        rw [ab_ref (small_64 _) (hS k (by omega)) (fun y => G_X12_missOf_21 N I J (nI q) (nI (k + (cntF kd wt wd cl L m (fstep kd wt wd cl L φ) + 1))) f y (nI k + 1)), nI_1]
        unfold msF
        rw [if_pos h4, show k + (cntF kd wt wd cl L m (fstep kd wt wd cl L φ) + 1) = k + 1 + cntF kd wt wd cl L m (fstep kd wt wd cl L φ) by omega, show d = len - (k + 1) by omega]
        refine ih (k + 1) _ _ (by omega) (by omega) (fun t ht => ?_) f (by omega)
        have := h1 (t + 1) (by omega)
        rw [show k + (t + 1) = k + 1 + t by omega] at this
        exact this
    · have hc1 : cntF kd wt wd cl L (m + 1) φ = 0 := if_neg h4
      have hm : msF kd wt wd cl L (fun k => J 117 (40 * q + k)) (len - k) k φ u = u := by
        cases len - k with
        | zero => rfl
        | succ d => unfold msF; rw [if_neg h4]
      rw [hc1, if_pos (nI_le (by omega) (by omega)), hm]
      exact mn_ref
end
/-- a miss, by numbers -/
def msJ (C L : Nat → Int32) (S : Nat → Int64) (j len : Nat) (h s t : Int32) : Int32 := mnF (msF (C (4 * j)) (C (4 * j + 1)) (C (4 * j + 2)) (C (4 * j + 3)) L S len 0 (st0 h s t) 0)
theorem msJ_bd {C L : Nat → Int32} {S : Nat → Int64} {j len k : Nat} {h s t : Int32} (hk : k < 36) (hsk : s = nI k) (ht : -9 ≤ t.toInt ∧ t.toInt ≤ 9) (hl : len ≤ 40) (hS : ∀ k, k < 40 → small (S k)) : 0 ≤ (msJ C L S j len h s t).toInt ∧ (msJ C L S j len h s t).toInt ≤ 999999999 := by
  have b := msF_bd (kd := C (4 * j)) (wt := C (4 * j + 1)) (wd := C (4 * j + 2)) (cl := C (4 * j + 3)) (L := L) hS len 0 0 (st0 h s t) 0 (st0_VF hk hsk ht) (by omega) (by omega) (by decide) (by rw [t64_0]; omega)
  exact mn_bd b.1 b.2
theorem m_missR {N : Nat} (hN : 400 < N) {j k q len : Nat} {h s' t : Int32} (hs : SinOK (I 105)) (hj : j < 6) (hwd : ¬ I 102 (4 * j + 2) = 0) (hk : k < 36) (hsk : s' = nI k) (ht : -9 ≤ t.toInt ∧ t.toInt ≤ 9) (hq : q < 4) (hlen : len ≤ 40) (h116 : I 116 q = nI len) (hS : ∀ k, k < 40 → small (J 117 (40 * q + k))) : ∃ I', F_X12_missOf N I J (nI j) h s' t (nI q) = some (msJ (I 102) (I 103) (fun k => J 117 (40 * q + k)) j len h s' t, I') ∧ Sc I I' := by
  obtain ⟨I4, e5, k1, k2, k3⟩ := m_films (N := N) (b1 := 111) (Or.inl rfl) hN (I := I) (j := j) (h := h) (s := s') (t := t) hs hj hwd hk hsk ht
  have e7 := m_missL (N := N) (I := I4) (J := J) (kd := I 102 (4 * j)) (wt := I 102 (4 * j + 1)) (wd := I 102 (4 * j + 2)) (cl := I 102 (4 * j + 3)) (L := I 103) hq hlen (by rw [k1 116 (by decide) (by decide)]; exact h116) hS 400 0 (st0 h s' t) 0 rfl (by omega) (fun t ht => by rw [Nat.zero_add]; exact k3 t ht) N hN
  rw [Nat.zero_add, Nat.sub_zero] at e7
  refine ⟨I4, ?_, ⟨fun x hx h1 => k1 x h1 (fun e => hx (by rw [e]; decide)), fun i hi => k2 i (by have := (scm_of hi).1; omega)⟩⟩
  unfold F_X12_missOf
  rw [e5]
  exact e7
theorem film_cases {q : Nat} (hq : q < 4) (h : SH (I (93 + 2 * q)) (J (94 + 2 * q)) (I 115 q) (I 116 q) (fun k => J 117 (40 * q + k))) : (I 115 q = 2 ∧ F_X11_filmRefusal I (some (93 + 2 * q)) = 0 ∧ F_X12_lacksSort I (nI q) 2 = some 0) ∨ ∃ v, ¬ 0 ≤ v ∧ ¬ v = 0 ∧ F_X11_filmRefusal I (some (93 + 2 * q)) = v ∧ F_X12_lacksSort I (nI q) 2 = some v := by
  obtain ⟨h1, h2, -, -⟩ := h
  unfold F_X11_filmRefusal F_X12_lacksSort
  rw [osel_s rfl, h2, if_pos (inb4 hq), clamp4 hq]
  rcases so_cases h1 with ⟨b1, b2⟩ | ⟨b1, b2⟩
  · exact Or.inr ⟨-11, by decide, by decide, by rw [if_pos b1], by rw [if_neg b2]⟩
  · by_cases b3 : I 115 q = 2
    · exact Or.inl ⟨b3, by rw [if_neg b1, if_pos b3], by rw [if_pos b2, if_pos (inb4 hq), if_pos b3]⟩
    · exact Or.inr ⟨-13, by decide, by decide, by rw [if_neg b1, if_neg b3], by rw [if_pos b2, if_pos (inb4 hq), if_neg b3]⟩
theorem q_miss {N : Nat} (hN : 400 < N) (r : Rel s T I J P) (p1 p2 p3 p4 p5 : Int32) : ∃ v I1 I2 P1, F_X11_miss N T I J P p1 p2 p3 p4 p5 = some (v, I1, P1) ∧ F_X12_miss N I1 J p1 p2 p3 p4 p5 = some (v, I2) ∧ Rel s T I2 J P1 := by
  obtain ⟨n, hC, hz, hL, hH, hA⟩ := r.now
  have h6 := hC.1
  rcases b_begin hC (a := 89) (by decide) p1 p2 p3 p4 with ⟨g1, g2⟩ | ⟨g1, j, k, c, Ib, hj, hp, hk, hs, ht, hc, hr, e2, f1, f2, q⟩
  · refine ⟨-1, I, I, P, ?_, ?_, r⟩
    · unfold F_X11_miss; rw [g2]; rfl
    · unfold F_X12_miss; rw [g1]; rfl
  · subst hp
    have sc0 : Sc I Ib := Sc.of1 (a := 89) (by decide) (by decide) f1
    have r0 : Rel s T Ib J (up2 P 89 0 (some c)) := r.sc sc0 Ps.s89
    have gf : ∀ Im : IM, Im 101 0 = I 101 0 → F_X12_isFall Im (nI j) p2 p3 p4 = 1 := fun Im h => by
      rw [← g1]
      unfold F_X12_isFall F_X12_isCard
      rw [h]
    rcases sheet_cases r0.shp p5 with ⟨g, e⟩ | ⟨g, w, hw, rfl, e⟩
    · refine ⟨-1, Ib, Ib, _, ?_, ?_, r0⟩
      · unfold F_X11_miss
        rw [e2]
        simp only [Option.bind_some]
        rw [if_neg n10, e]
        rfl
      · unfold F_X12_miss
        rw [gf Ib (sc0.2 0 (by decide)), if_neg n10, g]
        rfl
    · have hsh := r0.sh w hw
      have ex : F_X11_miss N T I J P (nI j) p2 p3 p4 (nI w) = (letb (F_X11_filmRefusal Ib (some (93 + 2 * w))) (fun y7 : Int32 => (if 0 ≤ y7 then ((F_X11_missOf N T Ib J (up2 P 89 0 (some c)) 89 (93 + 2 * w) 67).bind (fun x9 => (some (x9.1, x9.2, (up2 P 89 0 (some c)))))) else (some (y7, Ib, (up2 P 89 0 (some c))))))) := by
        unfold F_X11_miss
        rw [e2]
        simp only [Option.bind_some]
        rw [if_neg n10, e]
        simp only [Option.bind_some]
        rw [osel_s rfl, if_pos (isSb_q hw)]
      simp only [letb] at ex
      rcases film_cases hw hsh with ⟨a1, a2, a3⟩ | ⟨v, a0, a1, a2, a3⟩
      · obtain ⟨h1, h2, ⟨len, hlen, h3, h4⟩, h5⟩ := hsh
        have hcr := hr.fr (fun x hx _ => f1 x (by omega))
        have hcc := hr.1
        obtain ⟨I1, e3, l1⟩ := x_missL (N := N) (T := T) (J := J) (P := up2 P 89 0 (some c)) (c := c) (b := 67) (w := 93 + 2 * w) (len := len) (L := I 103) (wt := I 102 (4 * j + 1)) (up2_s _ _ _ _) hcr.2.1 hcr.2.2.1 hcr.1 hcr.wd0.1 (by decide) (by omega) hlen len 0 0 0 Ib (VF.congr q.sy (st0_VF hk hs ht)) (by omega) (by omega) f2 hcr.2.2.2.2.2.1 hcr.2.2.2.2.2.2.1 (by rw [f1 67 (by decide)]; exact hL) h4 N (by omega)
        rw [msF_A _ _ _ q.a, show 93 + 2 * w + 1 = 94 + 2 * w by omega, msF_S len 0 _ _ (by omega) (fun k hk => (h5 k hk).1)] at e3
        have sc1 : Sc Ib I1 := Sc.of1 (a := 89) (by decide) (by decide) l1
        have sc2 := sc0.tr sc1
        have z102 : I1 102 = I 102 := sc2.1 102 (by decide) (by decide)
        have z103 : I1 103 = I 103 := sc2.1 103 (by decide) (by decide)
        obtain ⟨I2, e4, sc3⟩ := m_missR (I := I1) (J := J) (N := N) hN (j := j) (q := w) (len := len) (h := p2) (s' := p3) (t := p4) (sc2.sin r.sin) (by omega) (by rw [z102]; exact hr.wd0.2) hk hs ht hw hlen (by rw [sc1.1 116 (by decide) (by decide)]; exact h3) (fun k hk => by
          have e : J (94 + 2 * w) k = J 117 (40 * w + k) := (h5 k hk).1
          rw [← e]
          exact (h5 k hk).2)
        rw [z102, z103] at e4
        refine ⟨msJ (I 102) (I 103) (fun k => J 117 (40 * w + k)) j len p2 p3 p4, I1, I2, up2 P 89 0 (some c), ?_, ?_, r.sc (sc2.tr sc3) Ps.s89⟩
        · rw [ex, a2, if_pos (by decide)]
          unfold F_X11_missOf
          rw [show (0 : Int32) = nI 0 from rfl, e3]
          rfl
        · have a3' : F_X12_lacksSort I1 (nI w) 2 = some 0 := by
            rw [← a3]
            unfold F_X12_lacksSort
            rw [sc1.1 115 (by decide) (by decide)]
          unfold F_X12_miss
          rw [gf I1 (sc2.2 0 (by decide)), if_neg n10, g, if_neg n10, a3']
          simp only [Option.bind_some, if_true]
          rw [e4]
          rfl
      · refine ⟨v, Ib, Ib, up2 P 89 0 (some c), ?_, ?_, r0⟩
        · rw [ex, a2, if_neg a0]
        · unfold F_X12_miss
          rw [gf Ib (sc0.2 0 (by decide)), if_neg n10, g, if_neg n10, a3]
          simp only [Option.bind_some]
          rw [if_neg a1]
end
