/-! THE TAPE: pieces of it, and the reference's -/
section
variable {N n : Nat} {tp : Nat → Int32} {I I' : IM} {J : JM}
def TpOK (n : Nat) (tp : Nat → Int32) : Prop := n ≤ 200 ∧ (∀ j, j < n → 0 ≤ (tp j).toInt ∧ (tp j).toInt ≤ 255) ∧ ∀ j, n ≤ j → tp j = -1
def TpM (I : IM) (n : Nat) (tp : Nat → Int32) : Prop := I 101 8 = nI n ∧ ∀ j, j < n → I 107 j = tp j
theorem m_byte (ok : TpOK n tp) (h : TpM I n tp) {p : Nat} (hp : p ≤ n) : F_X12_byteAt I (nI p) = some (tp p) := by
  have h2 := ok.1
  unfold F_X12_byteAt
  rw [h.1]
  by_cases q : p < n
  · rw [if_neg (nI_ge q (by omega)), if_pos (inbN (by omega) (by decide)), nI_clamp (by omega), h.2 p q]
  · rw [if_pos (nI_le (by omega) (by omega)), ok.2.2 p (by omega)]
def skF (tp : Nat → Int32) : Nat → Nat → Nat
  | 0, p => p
  | m + 1, p => if tp p = 32 then skF tp m (p + 1) else p
def sk (tp : Nat → Int32) (p : Nat) : Nat := skF tp 201 p
def leF (tp : Nat → Int32) : Nat → Nat → Nat
  | 0, p => p
  | m + 1, p => if F_X12_in (tp p) 97 122 = 0 then p else leF tp m (p + 1)
def deF (tp : Nat → Int32) : Nat → Nat → Nat
  | 0, p => p
  | m + 1, p => if F_X12_in (tp p) 48 57 = 0 then p else deF tp m (p + 1)
def wdF (tp : Nat → Int32) (b : Nat) : Nat → Nat → Int64 → Int64
  | 0, _, w => w
  | m + 1, e, w => if F_X12_in (tp e) 97 122 = 0 then w else wdF tp b m (e + 1) (if 8 ≤ e - b then (-1) else ((27 * w) + (Int32.toInt64 (tp e))) - 96)
def nmF (tp : Nat → Int32) (b : Nat) : Nat → Nat → Int32 → Int32
  | 0, _, v => v
  | m + 1, e, v => if F_X12_in (tp e) 48 57 = 0 then v else nmF tp b m (e + 1) (if 2 ≤ e - b then (-1) else ((10 * v) + tp e) - 48)
def srt (tp : Nat → Int32) (p : Nat) : Int32 := if 0 ≤ tp p then (if F_X12_in (tp p) 97 122 = 0 then (if F_X12_in (tp p) 48 57 = 0 then 3 else 2) else 1) else 0
def tend (tp : Nat → Int32) (p : Nat) : Nat := if srt tp p = 1 then leF tp 201 p else if srt tp p = 2 then deF tp 201 p else if srt tp p = 3 then p + 1 else p
def wrd (tp : Nat → Int32) (p : Nat) : Int64 := if srt tp p = 1 then wdF tp p 201 p 0 else 0
def val (tp : Nat → Int32) (p : Nat) : Int32 := if srt tp p = 2 then nmF tp p 201 p 0 else tp p
theorem at_in {p : Nat} (ok : TpOK n tp) (h : ¬ tp p = -1) : p < n := Nat.lt_of_not_le (fun q => h (ok.2.2 p q))
theorem lt_in {p : Nat} (ok : TpOK n tp) (h : ¬ F_X12_in (tp p) 97 122 = 0) : p < n := at_in ok (fun e => h (by rw [e]; decide))
theorem dg_in {p : Nat} (ok : TpOK n tp) (h : ¬ F_X12_in (tp p) 48 57 = 0) : p < n := at_in ok (fun e => h (by rw [e]; decide))
theorem bl_in {p : Nat} (ok : TpOK n tp) (h : tp p = 32) : p < n := at_in ok (fun e => by rw [e] at h; exact absurd h (by decide))
theorem skF_sp (ok : TpOK n tp) : ∀ (m p : Nat), p ≤ n → n < p + m → p ≤ skF tp m p ∧ skF tp m p ≤ n ∧ ¬ tp (skF tp m p) = 32 := by
  intro m
  induction m with
  | zero => intro p h1 h2; omega
  | succ m ih =>
    intro p h1 h2
    unfold skF
    by_cases q : tp p = 32
    · rw [if_pos q]
      have := bl_in ok q
      obtain ⟨a, b, c⟩ := ih (p + 1) (by omega) (by omega)
      exact ⟨by omega, b, c⟩
    · rw [if_neg q]
      exact ⟨Nat.le_refl _, h1, q⟩
theorem sk_sp (ok : TpOK n tp) {p : Nat} (h : p ≤ n) : p ≤ sk tp p ∧ sk tp p ≤ n ∧ ¬ tp (sk tp p) = 32 := skF_sp ok 201 p h (by have := ok.1; omega)
theorem sk_id {p : Nat} (h : ¬ tp p = 32) : sk tp p = p := if_neg h
theorem sk_sk (ok : TpOK n tp) {p : Nat} (h : p ≤ n) : sk tp (sk tp p) = sk tp p := sk_id (sk_sp ok h).2.2
theorem leF_sp (ok : TpOK n tp) : ∀ (m p : Nat), p ≤ n → n < p + m → p ≤ leF tp m p ∧ leF tp m p ≤ n ∧ F_X12_in (tp (leF tp m p)) 97 122 = 0 ∧ ∀ i, p ≤ i → i < leF tp m p → ¬ F_X12_in (tp i) 97 122 = 0 := by
  intro m
  induction m with
  | zero => intro p h1 h2; omega
  | succ m ih =>
    intro p h1 h2
    unfold leF
    by_cases q : F_X12_in (tp p) 97 122 = 0
    · rw [if_pos q]
      exact ⟨Nat.le_refl _, h1, q, fun i a b => by omega⟩
    · rw [if_neg q]
      have := lt_in ok q
      obtain ⟨a, b, c, d⟩ := ih (p + 1) (by omega) (by omega)
      refine ⟨by omega, b, c, fun i e f => ?_⟩
      by_cases z : i = p
      · rw [z]; exact q
      · exact d i (by omega) f
theorem deF_sp (ok : TpOK n tp) : ∀ (m p : Nat), p ≤ n → n < p + m → p ≤ deF tp m p ∧ deF tp m p ≤ n := by
  intro m
  induction m with
  | zero => intro p h1 h2; omega
  | succ m ih =>
    intro p h1 h2
    unfold deF
    by_cases q : F_X12_in (tp p) 48 57 = 0
    · rw [if_pos q]
      exact ⟨Nat.le_refl _, h1⟩
    · rw [if_neg q]
      have := dg_in ok q
      obtain ⟨a, b⟩ := ih (p + 1) (by omega) (by omega)
      exact ⟨by omega, b⟩
theorem srt_cases (tp : Nat → Int32) (p : Nat) : srt tp p = 0 ∨ srt tp p = 1 ∨ srt tp p = 2 ∨ srt tp p = 3 := by
  unfold srt
  repeat' split
  · exact Or.inr (Or.inr (Or.inr rfl))
  · exact Or.inr (Or.inr (Or.inl rfl))
  · exact Or.inr (Or.inl rfl)
  · exact Or.inl rfl
theorem srt_0 (ok : TpOK n tp) {p : Nat} (hp : p ≤ n) : srt tp p = 0 ↔ p = n := by
  unfold srt
  by_cases q : p < n
  · have h := ok.2.1 p q
    have h0 : 0 ≤ tp p := by rw [Int32.le_iff_toInt_le]; exact h.1
    rw [if_pos h0]
    constructor
    · intro z
      repeat' split at z
      all_goals exact absurd z (by decide)
    · intro z; omega
  · have e : p = n := by omega
    rw [ok.2.2 p (by omega)]
    exact ⟨fun _ => e, fun _ => by decide⟩
theorem tend_sp (ok : TpOK n tp) {p : Nat} (hp : p ≤ n) : p ≤ tend tp p ∧ tend tp p ≤ n := by
  have h2 := ok.1
  have h0 := srt_0 ok hp
  unfold tend
  by_cases a : srt tp p = 1
  · rw [if_pos a]; exact ⟨(leF_sp ok 201 p hp (by omega)).1, (leF_sp ok 201 p hp (by omega)).2.1⟩
  · by_cases b : srt tp p = 2
    · rw [if_neg a, if_pos b]; exact deF_sp ok 201 p hp (by omega)
    · by_cases c : srt tp p = 3
      · rw [if_neg a, if_neg b, if_pos c]
        have : ¬ p = n := fun e => by rw [h0.mpr e] at c; exact absurd c (by decide)
        omega
      · rw [if_neg a, if_neg b, if_neg c]; omega
theorem tend_0 {p : Nat} (h : srt tp p = 0) : tend tp p = p := by unfold tend; rw [h, if_neg (by decide), if_neg (by decide), if_neg (by decide)]
theorem tend_1 {p : Nat} (h : srt tp p = 1) : tend tp p = leF tp 201 p := by unfold tend; rw [if_pos h]
theorem tend_2 {p : Nat} (h : srt tp p = 2) : tend tp p = deF tp 201 p := by unfold tend; rw [if_neg (by rw [h]; decide), if_pos h]
theorem tend_3 {p : Nat} (h : srt tp p = 3) : tend tp p = p + 1 := by unfold tend; rw [if_neg (by rw [h]; decide), if_neg (by rw [h]; decide), if_pos h]
theorem wrd_1 {p : Nat} (h : srt tp p = 1) : wrd tp p = wdF tp p 201 p 0 := by unfold wrd; rw [if_pos h]
theorem wrd_n {p : Nat} (h : ¬ srt tp p = 1) : wrd tp p = 0 := by unfold wrd; rw [if_neg h]
theorem val_2 {p : Nat} (h : srt tp p = 2) : val tp p = nmF tp p 201 p 0 := by unfold val; rw [if_pos h]
theorem val_n {p : Nat} (h : ¬ srt tp p = 2) : val tp p = tp p := by unfold val; rw [if_neg h]
theorem nI_subN {e b : Nat} (h : b ≤ e) : nI e - nI b = nI (e - b) := by
  rw [Int32.sub_eq_iff_eq_add, nI_add]
  congr 1
  omega
theorem m_w (hN : 1 ≤ N) (ok : TpOK n tp) {b : Nat} : ∀ (m e : Nat) (I : IM) (J : JM) (w : Int64), e ≤ n → n < e + m → b ≤ e → TpM I n tp → I 101 9 = 1 → I 101 10 = nI b → I 101 11 = nI e → J 101 12 = w → ∀ f, m ≤ f → ∃ I' J', G_X12_advance_126 N f I J = some (I', J') ∧ I' 101 11 = nI (leF tp m e) ∧ J' 101 12 = wdF tp b m e w ∧ (∀ x, x ≠ 101 → I' x = I x) ∧ (∀ y, y ≠ 11 → I' 101 y = I 101 y) ∧ ∀ x, x ≠ 101 → J' x = J x := by
  have h200 := ok.1
  intro m
  induction m with
  | zero => intro e I J w h1 h2; omega
  | succ m ih =>
    intro e I J w h1 h2 hb hT e9 e10 e11 e12 f hf
    obtain ⟨f, rfl⟩ : ∃ g, f = g + 1 := ⟨f - 1, by omega⟩
    have hl : ∀ x, F_X12_isLetter x = F_X12_in x 97 122 := fun _ => rfl
    rw [G_X12_advance_126, if_pos e9, e11, m_byte ok hT h1]
    simp only [Option.bind_some, hl]
    unfold leF wdF
    by_cases q : F_X12_in (tp e) 97 122 = 0
    · rw [if_pos q, if_pos q, if_pos q]
      obtain ⟨N, rfl⟩ : ∃ g, N = g + 1 := ⟨N - 1, by omega⟩
      refine ⟨I, J, ?_, e11, e12, fun _ _ => rfl, fun _ _ => rfl, fun _ _ => rfl⟩
      rw [G_X12_advance_207, e9, if_neg (by decide)]
    · have hlt := lt_in ok q
      rw [if_neg q, if_neg q, if_neg q, e10, nI_subN hb]
      have hT2 : TpM (up2 I 101 11 (nI (e + 1))) n tp := by
        refine ⟨?_, fun j hj => ?_⟩
        · rw [up2_n _ _ (by omega)]; exact hT.1
        · rw [up2_oth _ _ _ (by decide)]; exact hT.2 j hj
      by_cases d : 8 ≤ e - b
      · rw [if_pos (show (8 : Int32) ≤ nI (e - b) from nI_le (a := 8) d (by omega)), if_pos d]
        simp only [letb]
        rw [nI_1]
        obtain ⟨I2, J2, e2, f1, f2, f3, f4, f5⟩ := ih (e + 1) (up2 I 101 11 (nI (e + 1))) (up2 J 101 12 (-1)) (-1) (by omega) (by omega) (by omega) hT2 (by rw [up2_n _ _ (by omega)]; exact e9) (by rw [up2_n _ _ (by omega)]; exact e10) (up2_s _ _ _ _) (up2_s _ _ _ _) f (by omega)
        exact ⟨I2, J2, e2, f1, f2, fun x hx => by rw [f3 x hx, up2_oth _ _ _ hx], fun y hy => by rw [f4 y hy, up2_n _ _ (by omega)], fun x hx => by rw [f5 x hx, up2_oth _ _ _ hx]⟩
      · rw [if_neg (show ¬ (8 : Int32) ≤ nI (e - b) from nI_ge (a := e - b) (b := 8) (by omega) (by decide)), if_neg d]
        simp only [letb]
        rw [nI_1, e12]
        obtain ⟨I2, J2, e2, f1, f2, f3, f4, f5⟩ := ih (e + 1) (up2 I 101 11 (nI (e + 1))) (up2 J 101 12 (((27 * w) + (Int32.toInt64 (tp e))) - 96)) (((27 * w) + (Int32.toInt64 (tp e))) - 96) (by omega) (by omega) (by omega) hT2 (by rw [up2_n _ _ (by omega)]; exact e9) (by rw [up2_n _ _ (by omega)]; exact e10) (up2_s _ _ _ _) (up2_s _ _ _ _) f (by omega)
        exact ⟨I2, J2, e2, f1, f2, fun x hx => by rw [f3 x hx, up2_oth _ _ _ hx], fun y hy => by rw [f4 y hy, up2_n _ _ (by omega)], fun x hx => by rw [f5 x hx, up2_oth _ _ _ hx]⟩
theorem m_d (ok : TpOK n tp) {b : Nat} : ∀ (m e : Nat) (I : IM) (v : Int32), e ≤ n → n < e + m → b ≤ e → TpM I n tp → I 101 9 = 2 → I 101 10 = nI b → I 101 11 = nI e → I 101 13 = v → ∀ f, m ≤ f → ∃ I', G_X12_advance_207 N J f I = some (I', J) ∧ I' 101 11 = nI (deF tp m e) ∧ I' 101 13 = nmF tp b m e v ∧ (∀ x, x ≠ 101 → I' x = I x) ∧ ∀ y, y ≠ 11 → y ≠ 13 → I' 101 y = I 101 y := by
  have h200 := ok.1
  intro m
  induction m with
  | zero => intro e I v h1 h2; omega
  | succ m ih =>
    intro e I v h1 h2 hb hT e9 e10 e11 e13 f hf
    obtain ⟨f, rfl⟩ : ∃ g, f = g + 1 := ⟨f - 1, by omega⟩
    have hl : ∀ x, F_X12_isDigit x = F_X12_in x 48 57 := fun _ => rfl
    rw [G_X12_advance_207, if_pos e9, e11, m_byte ok hT h1]
    simp only [Option.bind_some, hl]
    unfold deF nmF
    by_cases q : F_X12_in (tp e) 48 57 = 0
    · rw [if_pos q, if_pos q, if_pos q]
      exact ⟨I, rfl, e11, e13, fun _ _ => rfl, fun _ _ _ => rfl⟩
    · have hlt := dg_in ok q
      rw [if_neg q, if_neg q, if_neg q, e10, nI_subN hb]
      have hT2 : ∀ z, TpM (up2 (up2 I 101 13 z) 101 11 (nI (e + 1))) n tp := fun z => by
        refine ⟨?_, fun j hj => ?_⟩
        · rw [up2_n _ _ (by omega), up2_n _ _ (by omega)]; exact hT.1
        · rw [up2_oth _ _ _ (by decide), up2_oth _ _ _ (by decide)]; exact hT.2 j hj
      have go : ∀ z, ∃ I', G_X12_advance_207 N J f (up2 (up2 I 101 13 z) 101 11 (nI (e + 1))) = some (I', J) ∧ I' 101 11 = nI (deF tp m (e + 1)) ∧ I' 101 13 = nmF tp b m (e + 1) z ∧ (∀ x, x ≠ 101 → I' x = I x) ∧ ∀ y, y ≠ 11 → y ≠ 13 → I' 101 y = I 101 y := fun z => by
        obtain ⟨I2, e2, f1, f2, f3, f4⟩ := ih (e + 1) (up2 (up2 I 101 13 z) 101 11 (nI (e + 1))) z (by omega) (by omega) (by omega) (hT2 z) (by rw [up2_n _ _ (by omega), up2_n _ _ (by omega)]; exact e9) (by rw [up2_n _ _ (by omega), up2_n _ _ (by omega)]; exact e10) (up2_s _ _ _ _) (by rw [up2_n _ _ (by omega), up2_s]) f (by omega)
        exact ⟨I2, e2, f1, f2, fun x hx => by rw [f3 x hx, up2_oth _ _ _ hx, up2_oth _ _ _ hx], fun y h1 h2 => by rw [f4 y h1 h2, up2_n _ _ (by omega), up2_n _ _ (by omega)]⟩
      by_cases d : 2 ≤ e - b
      · rw [if_pos (show (2 : Int32) ≤ nI (e - b) from nI_le (a := 2) d (by omega)), if_pos d]
        simp only [letb]
        rw [up2_n _ _ (show ¬ (101 = 101 ∧ 11 = 13) by omega), e11, nI_1]
        exact go (-1)
      · rw [if_neg (show ¬ (2 : Int32) ≤ nI (e - b) from nI_ge (a := e - b) (b := 2) (by omega) (by decide)), if_neg d]
        simp only [letb]
        rw [up2_n _ _ (show ¬ (101 = 101 ∧ 11 = 13) by omega), e11, nI_1, e13]
        exact go _
/-- the reference stands at a token -/
def MS (tp : Nat → Int32) (I : IM) (J : JM) (q : Nat) : Prop := I 101 10 = nI q ∧ I 101 9 = srt tp q ∧ I 101 11 = nI (tend tp q) ∧ J 101 12 = wrd tp q ∧ I 101 13 = val tp q
/-- what reading changes of the reference -/
def FRm (I I' : IM) (J J' : JM) : Prop := (∀ x, x ≠ 101 → x ≠ 108 → x ≠ 109 → x ≠ 110 → I' x = I x) ∧ (∀ y, y ≠ 9 → y ≠ 10 → y ≠ 11 → y ≠ 13 → y ≠ 14 → y ≠ 15 → I' 101 y = I 101 y) ∧ ∀ x, x ≠ 101 → J' x = J x
/-- what a step to the next token changes -/
def FAd (I I' : IM) (J J' : JM) : Prop := (∀ x, x ≠ 101 → I' x = I x) ∧ (∀ y, y ≠ 9 → y ≠ 10 → y ≠ 11 → y ≠ 13 → I' 101 y = I 101 y) ∧ ∀ x, x ≠ 101 → J' x = J x
theorem m_adv8 (hN : 201 ≤ N) (ok : TpOK n tp) : ∀ (m p : Nat) (I : IM), p ≤ n → n < p + m → TpM I n tp → I 101 10 = nI p → ∀ f, m ≤ f → ∃ I' J', G_X12_advance_8 N J f I = some (I', J') ∧ MS tp I' J' (skF tp m p) ∧ FAd I I' J J' := by
  have h200 := ok.1
  intro m
  induction m with
  | zero => intro p I h1 h2; omega
  | succ m ih =>
    intro p I h1 h2 hT e10 f hf
    obtain ⟨f, rfl⟩ : ∃ g, f = g + 1 := ⟨f - 1, by omega⟩
    have hl : ∀ x, F_X12_isLetter x = F_X12_in x 97 122 := fun _ => rfl
    have hd : ∀ x, F_X12_isDigit x = F_X12_in x 48 57 := fun _ => rfl
    rw [G_X12_advance_8, e10, m_byte ok hT h1]
    simp only [Option.bind_some]
    unfold skF
    by_cases q : tp p = 32
    · have hlt := bl_in ok q
      rw [if_pos q, if_pos q]
      simp only [letb]
      rw [nI_1]
      obtain ⟨I2, J2, e2, f1, f2⟩ := ih (p + 1) (up2 I 101 10 (nI (p + 1))) (by omega) (by omega) ⟨by rw [up2_n _ _ (by omega)]; exact hT.1, fun j hj => by rw [up2_oth _ _ _ (by decide)]; exact hT.2 j hj⟩ (up2_s _ _ _ _) f (by omega)
      exact ⟨I2, J2, e2, f1, fun x hx => by rw [f2.1 x hx, up2_oth _ _ _ hx], fun y a b c d => by rw [f2.2.1 y a b c d, up2_n _ _ (by omega)], f2.2.2⟩
    · rw [if_neg q, if_neg q]
      simp only [letb]
      have hT5 : TpM (up2 I 101 11 (nI p)) n tp := ⟨by rw [up2_n _ _ (by omega)]; exact hT.1, fun j hj => by rw [up2_oth _ _ _ (by decide)]; exact hT.2 j hj⟩
      rw [up2_n _ _ (show ¬ (101 = 101 ∧ 10 = 11) by omega), e10, m_byte ok hT5 h1]
      simp only [Option.bind_some, hl, hd]
      have es : (if 0 ≤ tp p then (if F_X12_in (tp p) 97 122 = 0 then (if F_X12_in (tp p) 48 57 = 0 then (3 : Int32) else 2) else 1) else 0) = srt tp p := rfl
      rw [es, up2_s]
      generalize hI15 : up2 (up2 (up2 I 101 11 (nI p)) 101 9 (srt tp p)) 101 13 (if srt tp p = 2 then 0 else tp p) = I15
      have i15 : I15 101 10 = nI p ∧ I15 101 9 = srt tp p ∧ I15 101 11 = nI p ∧ I15 101 13 = (if srt tp p = 2 then 0 else tp p) ∧ (∀ x, x ≠ 101 → I15 x = I x) ∧ ∀ y, y ≠ 9 → y ≠ 11 → y ≠ 13 → I15 101 y = I 101 y := by
        subst hI15
        refine ⟨?_, ?_, ?_, up2_s _ _ _ _, fun x hx => ?_, fun y a b c => ?_⟩
        · rw [up2_n _ _ (by omega), up2_n _ _ (by omega), up2_n _ _ (by omega)]; exact e10
        · rw [up2_n _ _ (by omega), up2_s]
        · rw [up2_n _ _ (by omega), up2_n _ _ (by omega), up2_s]
        · rw [up2_oth _ _ _ hx, up2_oth _ _ _ hx, up2_oth _ _ _ hx]
        · rw [up2_n _ _ (by omega), up2_n _ _ (by omega), up2_n _ _ (by omega)]
      obtain ⟨b10, b9, b11, b13, bx, by'⟩ := i15
      have hT15 : TpM I15 n tp := ⟨by rw [by' 8 (by decide) (by decide) (by decide)]; exact hT.1, fun j hj => by rw [bx 107 (by decide)]; exact hT.2 j hj⟩
      obtain ⟨N', rfl⟩ : ∃ g, N = g + 1 := ⟨N - 1, by omega⟩
      rw [b9]
      rcases srt_cases tp p with s0 | s1 | s2 | s3
      · rw [s0] at b9 b13
        rw [s0, if_neg (by decide)]
        refine ⟨I15, up2 J 101 12 0, ?_, ⟨b10, ?_, ?_, ?_, ?_⟩, bx, fun y a b c d => by' y a c d, fun x hx => up2_oth _ _ _ hx⟩
        · rw [G_X12_advance_126, b9, if_neg (by decide), G_X12_advance_207, b9, if_neg (by decide)]
        · rw [s0]; exact b9
        · rw [b11]; rw [tend_0 s0]
        · rw [up2_s]; rw [wrd_n (by rw [s0]; decide)]
        · rw [b13]; rw [val_n (by rw [s0]; decide), if_neg (by decide)]
      · rw [s1] at b9 b13
        rw [s1, if_neg (by decide)]
        obtain ⟨I2, J2, e2, f1, f2, f3, f4, f5⟩ := m_w (N := N' + 1) (by omega) ok (b := p) 201 p I15 (up2 J 101 12 0) 0 h1 (by omega) (Nat.le_refl _) hT15 b9 b10 b11 (up2_s _ _ _ _) (N' + 1) (by omega)
        refine ⟨I2, J2, e2, ⟨?_, ?_, ?_, ?_, ?_⟩, fun x hx => by rw [f3 x hx, bx x hx], fun y a b c d => by rw [f4 y c, by' y a c d], fun x hx => by rw [f5 x hx, up2_oth _ _ _ hx]⟩
        · rw [f4 10 (by decide)]; exact b10
        · rw [f4 9 (by decide), s1]; exact b9
        · rw [f1]; rw [tend_1 s1]
        · rw [f2]; rw [wrd_1 s1]
        · rw [f4 13 (by decide), b13]; rw [val_n (by rw [s1]; decide), if_neg (by decide)]
      · rw [s2] at b9 b13
        rw [s2, if_neg (by decide)]
        obtain ⟨I2, e2, f1, f2, f3, f4⟩ := m_d (N := N' + 1) (J := up2 J 101 12 0) ok (b := p) 201 p I15 0 h1 (by omega) (Nat.le_refl _) hT15 b9 b10 b11 b13 (N' + 1) (by omega)
        refine ⟨I2, up2 J 101 12 0, ?_, ⟨?_, ?_, ?_, ?_, ?_⟩, fun x hx => by rw [f3 x hx, bx x hx], fun y a b c d => by rw [f4 y c d, by' y a c d], fun x hx => up2_oth _ _ _ hx⟩
        · rw [G_X12_advance_126, b9, if_neg (by decide)]
          exact e2
        · rw [f4 10 (by decide) (by decide)]; exact b10
        · rw [f4 9 (by decide) (by decide), s2]; exact b9
        · rw [f1]; rw [tend_2 s2]
        · rw [up2_s]; rw [wrd_n (by rw [s2]; decide)]
        · rw [f2]; rw [val_2 s2]
      · rw [s3] at b9 b13
        rw [s3, if_pos rfl, b11, nI_1]
        refine ⟨up2 I15 101 11 (nI (p + 1)), up2 J 101 12 0, ?_, ⟨?_, ?_, ?_, ?_, ?_⟩, fun x hx => by rw [up2_oth _ _ _ hx, bx x hx], fun y a b c d => by rw [up2_n _ _ (by omega), by' y a c d], fun x hx => up2_oth _ _ _ hx⟩
        · rw [G_X12_advance_126, up2_n _ _ (show ¬ (101 = 101 ∧ 9 = 11) by omega), b9, if_neg (by decide), G_X12_advance_207, up2_n _ _ (show ¬ (101 = 101 ∧ 9 = 11) by omega), b9, if_neg (by decide)]
        · rw [up2_n _ _ (by omega)]; exact b10
        · rw [up2_n _ _ (by omega), s3]; exact b9
        · rw [up2_s]; rw [tend_3 s3]
        · rw [up2_s]; rw [wrd_n (by rw [s3]; decide)]
        · rw [up2_n _ _ (by omega), b13]; rw [val_n (by rw [s3]; decide), if_neg (by decide)]
theorem m_advance (hN : 201 ≤ N) (ok : TpOK n tp) (hT : TpM I n tp) {e : Nat} (he : e ≤ n) (e11 : I 101 11 = nI e) : ∃ I' J', F_X12_advance N I J = some (I', J') ∧ MS tp I' J' (sk tp e) ∧ FAd I I' J J' := by
  have h200 := ok.1
  obtain ⟨I2, J2, e2, f1, f2⟩ := m_adv8 (N := N) (J := J) hN ok 201 e (up2 I 101 10 (nI e)) he (by omega) ⟨by rw [up2_n _ _ (by omega)]; exact hT.1, fun j hj => by rw [up2_oth _ _ _ (by decide)]; exact hT.2 j hj⟩ (up2_s _ _ _ _) N hN
  refine ⟨I2, J2, ?_, f1, fun x hx => by rw [f2.1 x hx, up2_oth _ _ _ hx], fun y a b c d => by rw [f2.2.1 y a b c d, up2_n _ _ (by omega)], f2.2.2⟩
  unfold F_X12_advance
  rw [e11]
  exact e2
end
