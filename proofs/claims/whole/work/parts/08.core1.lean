/-! THE MEMORY: what the cells that the law makes hold, by their names (64, 65, .. in the order in which they are made); names below 64 are cells that were there before. -/
abbrev IM : Type := Nat → Nat → Int32
abbrev JM : Type := Nat → Nat → Int64
abbrev PM : Type := Nat → Nat → Option Nat
/-- how many cells, the kind of each (0 to 12: a class of vwCl; 13 ints, 14 longs, 15 bytes, 16 and 17 references), how long a row is -/
abbrev TM : Type := Nat × (Nat → Nat) × (Nat → Nat)
/-- the launch, where the first cell lies, where the cells from before lie, the classes' numbers, the array classes, the script -/
abbrev GE : Type := Launch × Nat × (Nat → Nat) × va_G × (Nat → ClassId) × Nat × (Nat → Int32)
def q_ (E : GE) (n : Nat) : Nat := if n < 64 then E.2.2.1 n else E.2.1 + (n - 64)
def cv (E : GE) (v : Value) : Value := match v with
  | .ref n => .ref (q_ E n)
  | v => v
def cv2 (E : GE) (q : Nat × Value) : Nat × Value := (q.1, cv E q.2)
theorem cv_cat (E : GE) (v : Value) : (cv E v).category = v.category := by cases v <;> rfl
def lay (ci : Nat) : List Nat := match ci with
  | 0 => [0, 0, 0, 0]
  | 1 => [2, 0, 0, 0, 0, 0, 0, 0, 0, 0, 0]
  | 2 => [0, 0, 0, 0]
  | 3 => [0, 0, 2]
  | 4 => [0, 0, 0, 0]
  | 5 => [0, 0, 0, 0]
  | 6 => [2, 0, 0, 0]
  | 7 => [2, 0, 0]
  | 8 => [0, 0, 0, 0]
  | 9 => [0, 0, 0, 0]
  | 10 => [2, 0, 2, 2, 2, 0]
  | 11 => [2, 2, 0, 2, 2, 2, 2, 2, 2, 2, 2, 0, 2, 2, 2, 2]
  | 12 => [0, 2, 2, 2, 2, 0, 2, 2, 0, 0, 0, 0, 1, 0, 0, 0, 2, 2, 2, 0, 0, 0, 0, 0, 0, 0, 0, 0, 0, 0, 0, 0, 2, 2, 2, 2, 0, 0, 2, 2, 2, 2, 2, 2, 0, 0, 0, 2, 0, 0, 0, 2, 0, 2]
  | _ => []
def fv (E : GE) (I : IM) (J : JM) (P : PM) (a k t : Nat) : Value := match t with
  | 0 => .int (I a k)
  | 1 => .long (J a k)
  | _ => va_rf ((P a k).map (q_ E))
def flds (E : GE) (I : IM) (J : JM) (P : PM) (a ci : Nat) : List Value := (List.range (lay ci).length).map (fun k => fv E I J P a k ((lay ci).getD k 0))
theorem flds_get {E : GE} {I : IM} {J : JM} {P : PM} {a ci k t : Nat} (h : (lay ci)[k]? = some t) : (flds E I J P a ci)[k]? = some (fv E I J P a k t) := by
  have hk : k < (lay ci).length := (List.getElem?_eq_some_iff.mp h).1
  simp [flds, List.getElem?_range hk, h]
theorem flds_len {E : GE} {I : IM} {J : JM} {P : PM} {a ci : Nat} : (flds E I J P a ci).length = (lay ci).length := by simp [flds]
theorem flds_set {E : GE} {I I' : IM} {J J' : JM} {P P' : PM} {a ci k t : Nat} (h : (lay ci)[k]? = some t) (ho : ∀ j, j ≠ k → ∀ t, fv E I' J' P' a j t = fv E I J P a j t) : (flds E I J P a ci).set k (fv E I' J' P' a k t) = flds E I' J' P' a ci := by
  have hk : k < (lay ci).length := (List.getElem?_eq_some_iff.mp h).1
  apply List.ext_getElem?
  intro j
  rw [List.getElem?_set]
  by_cases hj : k = j
  · subst hj
    rw [if_pos rfl, if_pos (by rw [flds_len]; exact hk), flds_get h]
  · rw [if_neg hj]
    by_cases hl : j < (lay ci).length
    · have h2 : (lay ci)[j]? = some ((lay ci)[j]) := List.getElem?_eq_getElem hl
      rw [flds_get h2, flds_get h2, ho j (fun e => hj e.symm)]
    · rw [List.getElem?_eq_none (by rw [flds_len]; omega), List.getElem?_eq_none (by rw [flds_len]; omega)]
def cell (E : GE) (T : TM) (I : IM) (J : JM) (P : PM) (a : Nat) : va_E :=
  if T.2.1 a < 13 then .inr (T.2.1 a, flds E I J P a (T.2.1 a))
  else if T.2.1 a = 14 then .inl (E.2.2.2.2.1 14, T.2.2 a, .inr (.inl (J a)))
  else if T.2.1 a < 16 then .inl (E.2.2.2.2.1 (T.2.1 a), T.2.2 a, .inl (I a))
  else .inl (E.2.2.2.2.1 (T.2.1 a), T.2.2 a, .inr (.inr (.inr (.inr (fun j => (P a j).map (q_ E))))))
def wl (E : GE) (T : TM) (I : IM) (J : JM) (P : PM) : va_W := (List.range T.1).map (fun i => (E.2.1 + i, cell E T I J P (64 + i)))
def AA (E : GE) : Nat → Prop := fun q => E.2.1 ≤ q
def IS (T : TM) (a k : Nat) : Prop := 64 ≤ a ∧ a < 64 + T.1 ∧ T.2.1 a = k
def KT (E : GE) : List (ClassId × FieldType) := [(E.2.2.2.2.1 13, .int), (E.2.2.2.2.1 14, .long), (E.2.2.2.2.1 15, .byte), (E.2.2.2.2.1 16, .object RX0), (E.2.2.2.2.1 17, .object RX3)]
def HP (E : GE) (T : TM) (I : IM) (J : JM) (P : PM) (H : Heap) : Prop := va_P E.2.2.2.1 vwCl (wl E T I J P) H
theorem wl_get {E : GE} {T : TM} {I : IM} {J : JM} {P : PM} {i : Nat} (h : i < T.1) : (wl E T I J P)[i]? = some (E.2.1 + i, cell E T I J P (64 + i)) := by
  simp [wl, List.getElem?_range h]
theorem wl_lt {E : GE} {T : TM} {I : IM} {J : JM} {P : PM} {i : Nat} {q : Nat × va_E} (h : (wl E T I J P)[i]? = some q) : i < T.1 ∧ q = (E.2.1 + i, cell E T I J P (64 + i)) := by
  have hi : i < T.1 := by
    have := (List.getElem?_eq_some_iff.mp h).1
    simpa [wl] using this
  rw [wl_get hi] at h
  exact ⟨hi, (Option.some.inj h).symm⟩
theorem wl_D {E : GE} {T : TM} {I : IM} {J : JM} {P : PM} : va_D (AA E) (wl E T I J P) := by
  refine ⟨fun i j p q hi hj he => ?_, fun k q hk => ?_⟩
  · obtain ⟨-, rfl⟩ := wl_lt hi
    obtain ⟨-, rfl⟩ := wl_lt hj
    have he : E.2.1 + i = E.2.1 + j := he
    omega
  · obtain ⟨-, rfl⟩ := wl_lt hk
    show E.2.1 ≤ E.2.1 + k
    omega
theorem q_hi {E : GE} {a : Nat} (h : 64 ≤ a) : q_ E a = E.2.1 + (a - 64) := by
  unfold q_
  rw [if_neg (by omega)]
theorem wl_at {E : GE} {T : TM} {I : IM} {J : JM} {P : PM} {a k : Nat} (h : IS T a k) : (wl E T I J P)[a - 64]? = some (q_ E a, cell E T I J P a) := by
  obtain ⟨h1, h2, -⟩ := h
  rw [wl_get (by omega), q_hi h1, show 64 + (a - 64) = a by omega]
/-- a world with one cell changed -/
theorem wl_set {E : GE} {T : TM} {I I' : IM} {J J' : JM} {P P' : PM} {a k : Nat} (h : IS T a k) {e : va_E} (he : cell E T I' J' P' a = e) (ho : ∀ b, b ≠ a → cell E T I' J' P' b = cell E T I J P b) : (wl E T I J P).set (a - 64) (q_ E a, e) = wl E T I' J' P' := by
  obtain ⟨h1, h2, -⟩ := h
  apply List.ext_getElem?
  intro j
  rw [List.getElem?_set]
  by_cases hj : a - 64 = j
  · subst hj
    rw [if_pos rfl, if_pos (by simp [wl]; omega), wl_get (by omega), q_hi h1, show 64 + (a - 64) = a by omega, he]
  · rw [if_neg hj]
    by_cases hl : j < T.1
    · rw [wl_get hl, wl_get hl, ho _ (by omega)]
    · rw [List.getElem?_eq_none (by simp [wl]; omega), List.getElem?_eq_none (by simp [wl]; omega)]
/-- one number of one cell becomes v -/
def up2 {α : Type} (I : Nat → Nat → α) (a k : Nat) (v : α) : Nat → Nat → α := fun b j => if b = a ∧ j = k then v else I b j
theorem up2_s {α : Type} (I : Nat → Nat → α) (a k : Nat) (v : α) : up2 I a k v a k = v := by simp [up2]
theorem up2_n {α : Type} (I : Nat → Nat → α) {a k : Nat} (v : α) {b j : Nat} (h : ¬ (b = a ∧ j = k)) : up2 I a k v b j = I b j := by simp [up2, h]
theorem up2_row {α : Type} (I : Nat → Nat → α) (a k : Nat) (v : α) : up2 I a k v a = fun j => if j = k then v else I a j := by funext j; simp [up2]
theorem up2_oth {α : Type} (I : Nat → Nat → α) {a : Nat} (k : Nat) (v : α) {b : Nat} (h : b ≠ a) : up2 I a k v b = I b := by funext j; simp [up2, h]
theorem cell_obj {E : GE} {T : TM} {I : IM} {J : JM} {P : PM} {a ci : Nat} (h : T.2.1 a = ci) (hc : ci < 13) : cell E T I J P a = .inr (ci, flds E I J P a ci) := by
  subst h
  simp [cell, hc]
theorem cell_cong {E : GE} {T : TM} {I I' : IM} {J J' : JM} {P P' : PM} {b : Nat} (hI : I' b = I b) (hJ : J' b = J b) (hP : P' b = P b) : cell E T I' J' P' b = cell E T I J P b := by
  have hf : ∀ k t, fv E I' J' P' b k t = fv E I J P b k t := fun k t => by
    match t with
    | 0 => simp [fv, hI]
    | 1 => simp [fv, hJ]
    | n + 2 => simp [fv, hP]
  have hfl : ∀ ci, flds E I' J' P' b ci = flds E I J P b ci := fun ci => by simp [flds, hf]
  simp [cell, hI, hJ, hP, hfl]
