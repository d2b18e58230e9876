/-! THE TAPE: names -/
section
variable {N n : Nat} {tp : Nat → Int32} {I I' : IM} {J : JM}
def Vn (D : Nat → Nat) : Nat → Nat
  | 0 => 0
  | i + 1 => 27 * Vn D i + D i
def cdN : List Nat := [242939, 91888, 101525, 385898, 79828, 459652, 158575, 119163, 283357330, 207794107168, 8059585273, 7106601235, 335088634, 459383, 68056]
def chD (k i : Nat) : Nat := (strCh k (nI i)).toInt.toNat - 96
def sl (k : Nat) : Nat := strLn.getD k 0
theorem cd_V : ∀ k, k < 15 → Vn (chD k) (sl k) = cdN.getD k 0 := by decide +kernel
theorem ch_bd : ∀ k, k < 15 → ∀ i, i < sl k → 97 ≤ (strCh k (nI i)).toInt ∧ (strCh k (nI i)).toInt ≤ 122 := by decide +kernel
theorem sl_bd : ∀ k, k < 15 → 4 ≤ sl k ∧ sl k ≤ 8 := by decide +kernel
theorem cd_bd : ∀ k, k < 15 → cdN.getD k 0 < 282429536481 := by decide +kernel
theorem Vn_inj : ∀ (r l : Nat) (D d : Nat → Nat), (∀ i, i < r → 1 ≤ D i ∧ D i ≤ 26) → (∀ i, i < l → 1 ≤ d i ∧ d i ≤ 26) → Vn D r = Vn d l → r = l ∧ ∀ i, i < r → D i = d i := by
  intro r
  induction r with
  | zero =>
    intro l D d h1 h2 h3
    cases l with
    | zero => exact ⟨rfl, fun i hi => by omega⟩
    | succ l =>
      have := h2 l (by omega)
      have h3' : 0 = 27 * Vn d l + d l := h3
      omega
  | succ r ih =>
    intro l D d h1 h2 h3
    have a := h1 r (by omega)
    cases l with
    | zero =>
      have h3' : 27 * Vn D r + D r = 0 := h3
      omega
    | succ l =>
      have b := h2 l (by omega)
      have h3' : 27 * Vn D r + D r = 27 * Vn d l + d l := h3
      obtain ⟨e1, e2⟩ := ih l D d (fun i hi => h1 i (by omega)) (fun i hi => h2 i (by omega)) (by omega)
      subst e1
      refine ⟨rfl, fun i hi => ?_⟩
      by_cases z : i = r
      · subst z; omega
      · exact e2 i (by omega)
theorem Vn_congr : ∀ (r : Nat) (D d : Nat → Nat), (∀ i, i < r → D i = d i) → Vn D r = Vn d r := by
  intro r
  induction r with
  | zero => intro D d _; rfl
  | succ r ih =>
    intro D d h
    unfold Vn
    rw [ih D d (fun i hi => h i (by omega)), h r (by omega)]
theorem Vn_bd : ∀ (r : Nat) (D : Nat → Nat), (∀ i, i < r → D i ≤ 26) → Vn D r + 1 ≤ 27 ^ r := by
  intro r
  induction r with
  | zero => intro D _; exact Nat.le_refl _
  | succ r ih =>
    intro D h
    have := ih D (fun i hi => h i (by omega))
    have h2 := h r (by omega)
    unfold Vn
    rw [Nat.pow_succ]
    omega
theorem Vn_b8 {r : Nat} {D : Nat → Nat} (hr : r ≤ 8) (h : ∀ i, i < r → D i ≤ 26) : Vn D r < 282429536481 := by
  have h1 := Vn_bd r D h
  have h2 : 27 ^ r ≤ 27 ^ 8 := Nat.pow_le_pow_right (by decide) hr
  have h3 : (27 : Nat) ^ 8 = 282429536481 := by decide
  omega
def o64 (x : Nat) : Int64 := Int64.ofInt (x : Int)
theorem o64_t {x : Nat} (h : x < 9000000000000) : (o64 x).toInt = (x : Int) := by
  unfold o64
  rw [Int64.toInt_ofInt, show Int64.size = 2 ^ 64 from rfl]
  exact Int.bmod_eq_of_le (by omega) (by omega)
theorem o64_inj {x y : Nat} (hx : x < 9000000000000) (hy : y < 9000000000000) (h : o64 x = o64 y) : x = y := by
  have := congrArg Int64.toInt h
  rw [o64_t hx, o64_t hy] at this
  omega
theorem lt_bd {x : Int32} (h : ¬ F_X12_in x 97 122 = 0) : 97 ≤ x.toInt ∧ x.toInt ≤ 122 := by
  rcases in0 x 97 122 (a := 97) (b := 122) rfl rfl with ⟨g, _⟩ | ⟨_, q⟩
  · exact absurd g h
  · exact q
theorem lt_no {x : Int32} (h : 97 ≤ x.toInt ∧ x.toInt ≤ 122) : ¬ F_X12_in x 97 122 = 0 := by
  rw [in1 (a := 97) (b := 122) rfl rfl h]
  decide
/-- letters of a run as numbers -/
def Dt (tp : Nat → Int32) (b i : Nat) : Nat := (tp (b + i)).toInt.toNat - 96
theorem wd_val {b r : Nat} (hr : r ≤ 8) (hL : ∀ i, i < r → ¬ F_X12_in (tp (b + i)) 97 122 = 0) (hE : F_X12_in (tp (b + r)) 97 122 = 0) : ∀ (m i : Nat), i ≤ r → r - i < m → wdF tp b m (b + i) (o64 (Vn (Dt tp b) i)) = o64 (Vn (Dt tp b) r) := by
  intro m
  induction m with
  | zero => intro i h1 h2; omega
  | succ m ih =>
    intro i h1 h2
    unfold wdF
    by_cases z : i = r
    · rw [z, if_pos hE]
    · have hl := hL i (by omega)
      have hb := lt_bd hl
      rw [if_neg hl, if_neg (by omega)]
      have hd : ∀ j, j < r → Dt tp b j ≤ 26 := fun j hj => by
        have := lt_bd (hL j hj)
        unfold Dt
        omega
      have v1 := Vn_b8 (r := i) (by omega) (fun j hj => hd j (by omega))
      have e : ((27 * o64 (Vn (Dt tp b) i)) + (Int32.toInt64 (tp (b + i)))) - 96 = o64 (Vn (Dt tp b) (i + 1)) := by
        apply Int64.toInt_inj.mp
        have hv : Vn (Dt tp b) (i + 1) = 27 * Vn (Dt tp b) i + Dt tp b i := rfl
        have hDi : (Dt tp b i : Int) = (tp (b + i)).toInt - 96 := by unfold Dt; omega
        rw [o64_t (by have := hd i (by omega); rw [hv]; omega), hv, Int64.toInt_sub, Int64.toInt_add, Int64.toInt_mul, o64_t (by omega), Int32.toInt_toInt64, show (27 : Int64).toInt = 27 from rfl, show (96 : Int64).toInt = 96 from rfl, Int.bmod_eq_of_le (n := 27 * ((Vn (Dt tp b) i : Nat) : Int)) (by omega) (by omega), Int.bmod_eq_of_le (n := 27 * ((Vn (Dt tp b) i : Nat) : Int) + (tp (b + i)).toInt) (by omega) (by omega), Int.bmod_eq_of_le (by omega) (by omega)]
        omega
      rw [e]
      exact ih (i + 1) (by omega) (by omega)
theorem wd_neg {b r : Nat} (hr : 8 < r) (hL : ∀ i, i < r → ¬ F_X12_in (tp (b + i)) 97 122 = 0) (hE : F_X12_in (tp (b + r)) 97 122 = 0) : ∀ (m i : Nat) (w : Int64), i ≤ r → r - i < m → (i ≤ 8 ∨ w = -1) → wdF tp b m (b + i) w = -1 := by
  intro m
  induction m with
  | zero => intro i w h1 h2; omega
  | succ m ih =>
    intro i w h1 h2 h3
    unfold wdF
    by_cases z : i = r
    · rw [z, if_pos hE]
      rcases h3 with h3 | h3
      · omega
      · exact h3
    · rw [if_neg (hL i (by omega))]
      refine ih (i + 1) _ (by omega) (by omega) ?_
      by_cases q : 8 ≤ i
      · right; rw [if_pos (by omega)]
      · left; omega
/-- a name stands here, whole -/
def nmA (tp : Nat → Int32) (k q : Nat) : Prop := (∀ i, i < sl k → tp (q + i) = strCh k (nI i)) ∧ F_X12_in (tp (q + sl k)) 97 122 = 0
theorem name_r (ok : TpOK n tp) {q : Nat} (hq : q ≤ n) (h1 : srt tp q = 1) : ∃ r, leF tp 201 q = q + r ∧ (∀ i, i < r → ¬ F_X12_in (tp (q + i)) 97 122 = 0) ∧ F_X12_in (tp (q + r)) 97 122 = 0 ∧ wrd tp q = (if r ≤ 8 then o64 (Vn (Dt tp q) r) else -1) ∧ q + r ≤ n := by
  have h200 := ok.1
  obtain ⟨a, b, c, d⟩ := leF_sp ok 201 q hq (by omega)
  have e : leF tp 201 q = q + (leF tp 201 q - q) := by omega
  generalize leF tp 201 q - q = r at e
  rw [e] at b c d
  have hL : ∀ i, i < r → ¬ F_X12_in (tp (q + i)) 97 122 = 0 := fun i hi => d (q + i) (by omega) (by omega)
  refine ⟨r, e, hL, c, ?_, b⟩
  rw [wrd_1 h1]
  by_cases z : r ≤ 8
  · rw [if_pos z]
    exact wd_val z hL c 201 0 (by omega) (by omega)
  · rw [if_neg z]
    exact wd_neg (by omega) hL c 201 0 0 (by omega) (by omega) (Or.inl (by omega))
theorem srt_1 {q : Nat} : srt tp q = 1 ↔ ¬ F_X12_in (tp q) 97 122 = 0 := by
  unfold srt
  constructor
  · intro h z
    rw [z, if_pos rfl] at h
    revert h
    repeat' split
    all_goals decide
  · intro h
    have := lt_bd h
    have h0 : 0 ≤ tp q := by rw [Int32.le_iff_toInt_le]; show (0 : Int) ≤ _; omega
    rw [if_pos h0, if_neg h]
theorem name_iff (ok : TpOK n tp) {k q : Nat} (hk : k < 15) (hq : q ≤ n) : nmA tp k q ↔ (srt tp q = 1 ∧ wrd tp q = o64 (cdN.getD k 0)) := by
  have hs := sl_bd k hk
  have hc := cd_bd k hk
  constructor
  · intro h
    have hL : ∀ i, i < sl k → ¬ F_X12_in (tp (q + i)) 97 122 = 0 := fun i hi => by
      rw [h.1 i hi]
      exact lt_no (ch_bd k hk i hi)
    have s1 : srt tp q = 1 := srt_1.mpr (hL 0 (by omega))
    obtain ⟨r, e, a, b, c, d⟩ := name_r ok hq s1
    have er : r = sl k := by
      by_cases z : r < sl k
      · exact absurd b (hL r z)
      · by_cases z2 : sl k < r
        · exact absurd h.2 (a _ z2)
        · omega
    subst er
    refine ⟨s1, ?_⟩
    rw [c, if_pos hs.2, ← cd_V k hk]
    congr 1
    apply Vn_congr
    intro i hi
    unfold Dt chD
    rw [h.1 i hi]
  · rintro ⟨s1, hw⟩
    obtain ⟨r, e, a, b, c, d⟩ := name_r ok hq s1
    rw [c] at hw
    by_cases z : r ≤ 8
    · rw [if_pos z] at hw
      have hd : ∀ i, i < r → 1 ≤ Dt tp q i ∧ Dt tp q i ≤ 26 := fun i hi => by
        have := lt_bd (a i hi)
        unfold Dt
        omega
      have hd2 : ∀ i, i < sl k → 1 ≤ chD k i ∧ chD k i ≤ 26 := fun i hi => by
        have := ch_bd k hk i hi
        unfold chD
        omega
      have v1 := Vn_b8 z (fun i hi => (hd i hi).2)
      have hv := o64_inj (by omega) (by omega) hw
      rw [← cd_V k hk] at hv
      obtain ⟨e1, e2⟩ := Vn_inj r (sl k) _ _ hd hd2 hv
      subst e1
      refine ⟨fun i hi => ?_, b⟩
      have h1 := lt_bd (a i hi)
      have h2 := ch_bd k hk i hi
      have h3 := e2 i hi
      unfold Dt chD at h3
      exact Int32.toInt_inj.mp (by omega)
    · rw [if_neg z] at hw
      have := congrArg Int64.toInt hw
      rw [o64_t (by omega), show (-1 : Int64).toInt = -1 from rfl] at this
      omega
theorem name_end (ok : TpOK n tp) {k q : Nat} (hk : k < 15) (hq : q ≤ n) (h : nmA tp k q) : tend tp q = q + sl k ∧ q + sl k ≤ n := by
  have hs := sl_bd k hk
  have s1 := ((name_iff ok hk hq).mp h).1
  obtain ⟨r, e, a, b, c, d⟩ := name_r ok hq s1
  have hL : ∀ i, i < sl k → ¬ F_X12_in (tp (q + i)) 97 122 = 0 := fun i hi => by
    rw [h.1 i hi]
    exact lt_no (ch_bd k hk i hi)
  have er : r = sl k := by
    by_cases z : r < sl k
    · exact absurd b (hL r z)
    · by_cases z2 : sl k < r
      · exact absurd h.2 (a _ z2)
      · omega
  subst er
  rw [tend_1 s1]
  exact ⟨e, d⟩
theorem cmp_0 (x y : Int64) : lg_cmp x y = 0 ↔ x = y := by
  unfold lg_cmp
  by_cases h : x > y
  · rw [if_pos h]
    constructor
    · intro z; exact absurd z (by decide)
    · intro z
      subst z
      have h' : x < x := h
      rw [Int64.lt_iff_toInt_lt] at h'
      omega
  · rw [if_neg h]
    by_cases e : x = y
    · rw [if_pos e]; exact ⟨fun _ => e, fun _ => rfl⟩
    · rw [if_neg e]; exact ⟨fun z => absurd z (by decide), fun z => absurd z e⟩
theorem m_isWord (ok : TpOK n tp) {k q : Nat} (hk : k < 15) (hq : q ≤ n) (h : MS tp I J q) : (nmA tp k q → F_X12_isWord I J (o64 (cdN.getD k 0)) = 1) ∧ (¬ nmA tp k q → F_X12_isWord I J (o64 (cdN.getD k 0)) = 0) := by
  have hi := name_iff ok hk hq
  unfold F_X12_isWord
  rw [h.2.1, h.2.2.2.1]
  constructor
  · intro z
    obtain ⟨a, b⟩ := hi.mp z
    rw [if_pos a, if_pos ((cmp_0 _ _).mpr b)]
  · intro z
    by_cases a : srt tp q = 1
    · rw [if_pos a]
      by_cases b : wrd tp q = o64 (cdN.getD k 0)
      · exact absurd (hi.mpr ⟨a, b⟩) z
      · rw [if_neg (fun c => b ((cmp_0 _ _).mp c))]
    · rw [if_neg a]
theorem m_isMark {q : Nat} {c : Int32} (h : MS tp I J q) (hc : c = 59 ∨ c = 45) : F_X12_isMark I c = if tp q = c then 1 else 0 := by
  unfold F_X12_isMark
  rw [h.2.1, h.2.2.2.2]
  by_cases s3 : srt tp q = 3
  · rw [if_pos s3, val_n (by rw [s3]; decide)]
  · rw [if_neg s3]
    by_cases e : tp q = c
    · exfalso
      apply s3
      unfold srt
      rw [e]
      rcases hc with rfl | rfl <;> decide
    · rw [if_neg e]
/-- two names are not one -/
theorem name_ne (ok : TpOK n tp) {k l q : Nat} (hk : k < 15) (hl : l < 15) (hq : q ≤ n) (h1 : nmA tp k q) (h2 : nmA tp l q) : k = l := by
  have a := ((name_iff ok hk hq).mp h1).2
  have b := ((name_iff ok hl hq).mp h2).2
  rw [a] at b
  have c := o64_inj (by have := cd_bd k hk; omega) (by have := cd_bd l hl; omega) b
  have key : ∀ k, k < 15 → ∀ l, l < 15 → cdN.getD k 0 = cdN.getD l 0 → k = l := by decide +kernel
  exact key k hk l hl c
end
