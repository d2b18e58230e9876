section
variable {s : Nat} {T : TM} {I I' I'' : IM} {J : JM} {P P' P'' : PM}
section
variable {kd wt wd cl : Int32} {L M : Nat → Int32}
def jdgF (kd wt wd cl : Int32) (L R : Nat → Int32) : Nat → Nat → (Nat → Int32) → Int32
  | 0, _, _ => 0
  | m + 1, i, φ => if 0 < φ 4 then (if R (3 * i) = fstep kd wt wd cl L φ 3 then (if R (3 * i + 1) = fstep kd wt wd cl L φ 4 then (if R (3 * i + 2) = fstep kd wt wd cl L φ 5 then jdgF kd wt wd cl L R m (i + 1) (fstep kd wt wd cl L φ) else nI (i + 1)) else nI (i + 1)) else nI (i + 1)) else nI (i + 1)
theorem jdgF_A {R : Nat → Int32} : ∀ (m i : Nat) {φ ψ : Nat → Int32}, EqA φ ψ → jdgF kd wt wd cl L R m i φ = jdgF kd wt wd cl L R m i ψ := by
  intro m
  induction m with
  | zero => intro i φ ψ h; rfl
  | succ m ih =>
    intro i φ ψ h
    have h2 := fstepA (kd := kd) (wt := wt) (wd := wd) (cl := cl) (L := L) h
    unfold jdgF
    rw [h 4 (by decide) (by decide), h2 3 (by decide) (by decide), h2 4 (by decide) (by decide), h2 5 (by decide) (by decide), ih _ h2]
theorem jdgF_L {R : Nat → Int32} (h : EqL L M) : ∀ (m i : Nat) (φ : Nat → Int32), jdgF kd wt wd cl L R m i φ = jdgF kd wt wd cl M R m i φ := by
  intro m
  induction m with
  | zero => intro i φ; rfl
  | succ m ih => intro i φ; unfold jdgF; rw [fstep_L h, ih]
theorem jdgF_R {R S : Nat → Int32} : ∀ (m i : Nat) (φ : Nat → Int32), (∀ x, x < 3 * (i + m) → R x = S x) → jdgF kd wt wd cl L R m i φ = jdgF kd wt wd cl L S m i φ := by
  intro m
  induction m with
  | zero => intro i φ _; rfl
  | succ m ih =>
    intro i φ h
    unfold jdgF
    rw [h (3 * i) (by omega), h (3 * i + 1) (by omega), h (3 * i + 2) (by omega), ih _ _ (fun x hx => h x (by omega))]
theorem x_judgeL {N : Nat} {T : TM} {P : PM} {c nr : Nat} {R : Nat → Int32} (hP : P 89 0 = some c) (hc : isF T c = true) (hK : kmapR (T.2.1 c) kd) (hca : 124 ≤ c) (hw : ¬ wd ≤ 0) (hnr : nr ≤ 20) : ∀ (m i n : Nat) (I : IM), I 64 11 = nI nr → VF n (I 89) → n + m < 300000 → i + m = nr → I 89 1 = wt → I c 2 = wd → I c 3 = cl → I 67 = L → I 88 = R → ∀ f, m < f → ∃ I', G_X11_judge_32 N T P f (nI i) I = some (jdgF kd wt wd cl L R m i (I 89), I', P) ∧ (∀ x, x ≠ 89 → I' x = I x) := by
  intro m
  induction m with
  | zero =>
    intro i n I h64 v hn hi e1 e2 e3 e4 e5 f hf
    obtain ⟨f, rfl⟩ : ∃ g, f = g + 1 := ⟨f - 1, by omega⟩
    refine ⟨I, ?_, fun _ _ => rfl⟩
    rw [G_X11_judge_32, h64, if_pos (nI_le (by omega) (by omega))]
    rfl
  | succ m ih =>
    intro i n I h64 v hn hi e1 e2 e3 e4 e5 f hf
    obtain ⟨f, rfl⟩ : ∃ g, f = g + 1 := ⟨f - 1, by omega⟩
    rw [G_X11_judge_32, if_neg (by rw [h64]; exact nI_ge (by omega) (by omega))]
    unfold jdgF
    by_cases h4 : 0 < I 89 4
    · have hl : F_X1_landed I 89 = 0 := by unfold F_X1_landed; rw [if_pos h4]
      obtain ⟨I1, hI1, f1, hrow, v1⟩ := x_tick (b := 67) hP hc hK (by rw [e2]; exact hw) (by decide) (by omega) v (by omega)
      rw [e1, e2, e3, e4] at hrow
      obtain ⟨⟨a1, a2⟩, ⟨b1, b2⟩, ⟨c1, c2⟩, -⟩ := row_ix2 i (by omega)
      have e88 : I1 88 = R := by rw [f1 88 (by decide)]; exact e5
      rw [if_pos hl, if_pos h4, hI1]
      simp only [Option.bind_some, letb]
      rw [if_pos a1, a2, if_pos b1, b2, if_pos c1, c2, e88, ← hrow]
      obtain ⟨I2, hI2, g1⟩ := ih (i + 1) (n + 1) I1 (by rw [f1 64 (by decide)]; exact h64) v1 (by omega) (by omega) (by rw [hrow, fstep_1]; exact e1) (by rw [f1 c (by omega)]; exact e2) (by rw [f1 c (by omega)]; exact e3) (by rw [f1 67 (by decide)]; exact e4) e88 f (by omega)
      by_cases d1 : R (3 * i) = I1 89 3
      · rw [if_pos d1, if_pos d1]
        by_cases d2 : R (3 * i + 1) = I1 89 4
        · rw [if_pos d2, if_pos d2]
          by_cases d3 : R (3 * i + 2) = I1 89 5
          · rw [if_pos d3, if_pos d3, nI_1]
            exact ⟨I2, hI2, fun x hx => (g1 x hx).trans (f1 x hx)⟩
          · rw [if_neg d3, if_neg d3, nI_1]
            exact ⟨I1, rfl, f1⟩
        · rw [if_neg d2, if_neg d2, nI_1]
          exact ⟨I1, rfl, f1⟩
      · rw [if_neg d1, if_neg d1, nI_1]
        exact ⟨I1, rfl, f1⟩
    · have hl : F_X1_landed I 89 = 1 := by unfold F_X1_landed; rw [if_neg h4]
      rw [hl, if_neg (by decide), if_neg h4, nI_1]
      exact ⟨I, rfl, fun _ _ => rfl⟩
theorem m_j46 {N : Nat} {I : IM} {K : Int32 → Option (Int32 × IM)} {i : Nat} (hi : i < 20) : ∀ (m w f : Nat), w + m = 3 → m + 1 < f → ((∀ k, w ≤ k → k < 3 → I 113 (3 * i + k) = I 114 (3 * i + k)) → G_X12_judge_46 N I K (nI i) f 1 (nI w) = K (nI i + 1)) ∧ ((∃ k, w ≤ k ∧ k < 3 ∧ ¬ I 113 (3 * i + k) = I 114 (3 * i + k)) → G_X12_judge_46 N I K (nI i) f 1 (nI w) = some (nI i + 1, I)) := by
  intro m
  induction m with
  | zero =>
    intro w f hw hf
    obtain ⟨f, rfl⟩ : ∃ g, f = g + 1 := ⟨f - 1, by omega⟩
    refine ⟨fun _ => ?_, fun ⟨k, h1, h2, _⟩ => by omega⟩
    rw [G_X12_judge_46, if_pos (by rw [show w = 3 by omega]; decide), if_neg (by decide)]
  | succ m ih =>
    intro w f hw hf
    obtain ⟨f, rfl⟩ : ∃ g, f = g + 1 := ⟨f - 1, by omega⟩
    obtain ⟨x1, x2, x3⟩ := row_idx i hi w (by omega)
    have h3 : ¬ (3 : Int32) ≤ nI w := nI_ge (a := w) (b := 3) (by omega) (by decide)
    obtain ⟨ih1, ih2⟩ := ih (w + 1) f (by omega) (by omega)
    have e : G_X12_judge_46 N I K (nI i) (f + 1) 1 (nI w) = G_X12_judge_46 N I K (nI i) f (if I 113 (3 * i + w) = I 114 (3 * i + w) then 1 else 0) (nI (w + 1)) := by
      rw [G_X12_judge_46, if_neg h3, if_neg (by decide), x3, if_pos x1, if_pos x1, x2, nI_1]
      rfl
    rw [e]
    by_cases q : I 113 (3 * i + w) = I 114 (3 * i + w)
    · rw [if_pos q]
      refine ⟨fun h => ih1 (fun k h1 h2 => h k (by omega) h2), fun ⟨k, h1, h2, h5⟩ => ih2 ⟨k, ?_, h2, h5⟩⟩
      by_cases z : k = w
      · subst z; exact absurd q h5
      · omega
    · rw [if_neg q]
      refine ⟨fun h => absurd (h w (Nat.le_refl _) (by omega)) q, fun _ => ?_⟩
      obtain ⟨f, rfl⟩ : ∃ g, f = g + 1 := ⟨f - 1, by omega⟩
      rw [G_X12_judge_46, if_pos rfl, if_pos rfl, ite_self]
theorem m_judgeL {N : Nat} (hN : 4 < N) {I : IM} {nr : Nat} {R : Nat → Int32} (hnr : nr ≤ 20) (h36 : I 101 36 = nI nr) (hR : ∀ x, x < 3 * nr → I 113 x = R x) : ∀ (m i : Nat) (ψ : Nat → Int32), i + m = nr → I 101 37 = nI (i + cntF kd wt wd cl L m ψ) → (∀ k, k < cntF kd wt wd cl L m ψ → ∀ w, w < 3 → I 114 (3 * (i + k) + w) = itF kd wt wd cl L (k + 1) ψ (3 + w)) → ∀ f, m < f → G_X12_judge_22 N I f (nI i) = some (jdgF kd wt wd cl L R m i ψ, I) := by
  intro m
  induction m with
  | zero =>
    intro i ψ hi h37 hm f hf
    obtain ⟨f, rfl⟩ : ∃ g, f = g + 1 := ⟨f - 1, by omega⟩
    rw [G_X12_judge_22, h36, if_pos (nI_le (by omega) (by omega))]
    rfl
  | succ m ih =>
    intro i ψ hi h37 hm f hf
    obtain ⟨f, rfl⟩ : ∃ g, f = g + 1 := ⟨f - 1, by omega⟩
    rw [G_X12_judge_22, h36, if_neg (nI_ge (by omega) (by omega))]
    simp only [letb]
    unfold jdgF
    by_cases h4 : 0 < ψ 4
    · have hk : cntF kd wt wd cl L (m + 1) ψ = cntF kd wt wd cl L m (fstep kd wt wd cl L ψ) + 1 := if_pos h4
      have hle := cntF_le (kd := kd) (wt := wt) (wd := wd) (cl := cl) (L := L) m (fstep kd wt wd cl L ψ)
      rw [hk] at h37 hm
      have row0 : ∀ w, w < 3 → I 114 (3 * i + w) = fstep kd wt wd cl L ψ (3 + w) := fun w hw => hm 0 (by omega) w hw
      rw [if_pos h4, h37, if_neg (nI_ge (by omega) (by omega))]
      obtain ⟨j1, j2⟩ := m_j46 (N := N) (I := I) (K := fun k0 => G_X12_judge_22 N I f k0) (i := i) (by omega) 3 0 N rfl (by omega)
      have r0 := row0 0 (by decide)
      have r1 := row0 1 (by decide)
      have r2 := row0 2 (by decide)
      have s0 := hR (3 * i + 0) (by omega)
      have s1 := hR (3 * i + 1) (by omega)
      have s2 := hR (3 * i + 2) (by omega)
      by_cases d1 : R (3 * i) = fstep kd wt wd cl L ψ 3
      · rw [if_pos d1]
        by_cases d2 : R (3 * i + 1) = fstep kd wt wd cl L ψ 4
        · rw [if_pos d2]
          by_cases d3 : R (3 * i + 2) = fstep kd wt wd cl L ψ 5
          · rw [if_pos d3]
            have g := j1 (fun k h1 h2 => by
              have : k = 0 ∨ k = 1 ∨ k = 2 := by omega
              rcases this with rfl | rfl | rfl
              · rw [s0, r0]; exact d1
              · rw [s1, r1]; exact d2
              · rw [s2, r2]; exact d3)
            refine Eq.trans g ?_
            show G_X12_judge_22 N I f (nI i + 1) = _
            rw [nI_1]
            refine ih (i + 1) _ (by omega) (by rw [h37]; congr 1; omega) (fun k hk w hw => ?_) f (by omega)
            have := hm (k + 1) (by omega) w hw
            rw [show i + (k + 1) = i + 1 + k by omega] at this
            exact this
          · rw [if_neg d3, ← nI_1]
            exact j2 ⟨2, by decide, by decide, by rw [s2, r2]; exact d3⟩
        · rw [if_neg d2, ← nI_1]
          exact j2 ⟨1, by decide, by decide, by rw [s1, r1]; exact d2⟩
      · rw [if_neg d1, ← nI_1]
        exact j2 ⟨0, by decide, by decide, by rw [s0, r0]; exact d1⟩
    · have hk : cntF kd wt wd cl L (m + 1) ψ = 0 := if_neg h4
      rw [hk] at h37
      rw [if_neg h4, h37, if_pos (nI_le (by omega) (by omega))]
      obtain ⟨N', hN'⟩ : ∃ g, N = g + 1 := ⟨N - 1, by omega⟩
      rw [hN', G_X12_judge_46, if_pos rfl, if_pos rfl, ite_self, nI_1]
end
theorem q_judge {N : Nat} (hN : 400 < N) (hs : s ≤ 600) (r : Rel s T I J P) : ∃ v I1 I2 P1, F_X11_judge N T I P = some (v, I1, P1) ∧ F_X12_judge N I1 = some (v, I2) ∧ Rel s T I2 J P1 := by
  obtain ⟨n, hC, hz, hL, hH, hA⟩ := r.now
  obtain ⟨nr, hnr, hr1, hr2, hr3⟩ := r.rows
  have h6n := hC.1
  rcases air_some hC hA with ⟨a1, a2⟩ | ⟨c, j, m, a1, a2, a3, a4, a5, a6, a7, a8, hr⟩
  · refine ⟨-4, I, I, P, ?_, ?_, r⟩
    · unfold F_X11_judge; rw [osel_n a1]
    · unfold F_X12_judge; rw [a2]; rfl
  · obtain ⟨w1, w2⟩ := hr.wd0
    have hc := hr.1
    obtain ⟨Ia, ea, fa, ga⟩ := x_copyF I P (a := 89) (b := 69) (by decide)
    rw [a2] at ea
    have hq : EqF (I 69) (Ia 89) := fun i h1 h2 => (ga i (by omega) h2).symm
    obtain ⟨I1, e1, f1⟩ := x_judgeL (N := N) (kd := I 102 (4 * j)) (wt := I 102 (4 * j + 1)) (wd := I 102 (4 * j + 2)) (cl := I 102 (4 * j + 3)) (T := T) (P := up2 P 89 0 (some c)) (c := c) (L := I 67) (R := I 88) (up2_s _ _ _ _) hr.2.1 hr.2.2.1 hr.1 w1 hnr nr 0 m Ia (by rw [fa 64 (by decide)]; exact hr1) (a8.congr hq) (by omega) (by omega) (by rw [ga 1 (by decide) (by decide)]; exact a5) (by rw [fa c (by omega)]; exact hr.2.2.2.2.2.1) (by rw [fa c (by omega)]; exact hr.2.2.2.2.2.2.1) (fa 67 (by decide)) (fa 88 (by decide)) N (by omega)
    rw [← jdgF_A _ _ hq.a] at e1
    have sc1 : Sc I I1 := Sc.of1 (a := 89) (by decide) (by decide) (fun x hx => (f1 x hx).trans (fa x hx))
    obtain ⟨I2, e2, k1, k2, c0, c1, c2, c3, k3⟩ := m_takes (I := I1) (j := j) (by omega) (by rw [sc1.1 106 (by decide) (by decide)]; exact a4)
    rw [sc1.1 102 (by decide) (by decide)] at c0 c1 c2 c3
    have hA2 : EqA (mrow I2) (I 69) := fun i h1 h2 => by
      have := k3 (i - 1) (by omega) (by omega)
      rw [show i - 1 + 1 = i by omega, sc1.1 106 (by decide) (by decide)] at this
      have q := a6 (i - 1) (by omega) (by omega)
      rw [show i - 1 + 1 = i by omega] at q
      rw [this, q]
    generalize hI3 : up2 I2 101 37 0 = I3
    have t1 : ∀ x, x ≠ 101 → I3 x = I2 x := fun x hx => by rw [← hI3, up2_oth _ _ _ hx]
    have t2 : I3 101 37 = nI 0 := by rw [← hI3, up2_s]; rfl
    have t3 : ∀ i, i ≠ 37 → I3 101 i = I2 101 i := fun i hi => by rw [← hI3]; simp [up2, hi]
    have hA3 : EqA (mrow I3) (I 69) := fun i h1 h2 => (t3 (i + 21) (by omega)).trans (hA2 i h1 h2)
    obtain ⟨I4, e4, g1, g2, g3, g4, -⟩ := m_findL (N := N) (kd := I 102 (4 * j)) (wt := I 102 (4 * j + 1)) (wd := I 102 (4 * j + 2)) (cl := I 102 (4 * j + 3)) (L := I 103) w2 nr 0 m I3 t2 (a8.congrA hA3.sy) (by omega) (by omega) (by rw [t1 105 (by decide), k1 105 (by decide)]; exact sc1.sin r.sin) (by rw [t3 19 (by decide)]; exact c0) (by rw [t3 20 (by decide)]; exact c1) (by rw [t3 21 (by decide)]; exact c2) (by rw [t3 22 (by decide)]; exact c3) (by rw [t1 103 (by decide), k1 103 (by decide), sc1.1 103 (by decide) (by decide)]) N (by omega)
    simp only [Nat.zero_add] at e4
    have x1 : ∀ x, x ≠ 101 → x ≠ 114 → I4 x = I1 x := fun x h1 h2 => by rw [g1 x h1 h2, t1 x h1, k1 x h1]
    have x2 : ∀ i, (i < 19 ∨ 31 < i) ∧ i ≠ 37 → I4 101 i = I1 101 i := fun i hi => by rw [g2 i ⟨by omega, hi.2⟩, t3 i hi.2, k2 i hi.1]
    have sc4 : Sc I1 I4 := ⟨fun x hx h1 => x1 x h1 (fun e => hx (by rw [e]; decide)), fun i hi => x2 i (by have := scm_of hi; omega)⟩
    have e5 := m_judgeL (N := N) (kd := I 102 (4 * j)) (wt := I 102 (4 * j + 1)) (wd := I 102 (4 * j + 2)) (cl := I 102 (4 * j + 3)) (L := I 103) (by omega) (I := I4) (R := I 88) hnr (by rw [x2 36 (by decide), sc1.2 36 (by decide)]; exact hr2) (fun x hx => by rw [x1 113 (by decide) (by decide), sc1.1 113 (by decide) (by decide)]; exact (hr3 x hx).symm) nr 0 (mrow I3) (by omega) g3 g4 N (by omega)
    rw [jdgF_A _ _ hA3, ← jdgF_L hL] at e5
    refine ⟨jdgF (I 102 (4 * j)) (I 102 (4 * j + 1)) (I 102 (4 * j + 2)) (I 102 (4 * j + 3)) (I 67) (I 88) nr 0 (I 69), I1, I4, up2 P 89 0 (some c), ?_, ?_, r.sc (sc1.tr sc4) Ps.s89⟩
    · unfold F_X11_judge
      rw [osel_s a2, ea]
      exact e1
    · unfold F_X12_judge F_X12_findRows
      rw [sc1.1 106 (by decide) (by decide), a4, if_pos (nI_pos' (by omega)), e2]
      simp only [Option.bind_some, letb]
      rw [hI3, sc1.2 36 (by decide), hr2, e4]
      exact e5
end
