/-! RETURNS, FIELDS, ROWS -/
section HEAP
variable {E : GE} {M : MD} {R : Room} {Z : State → Array Value → List Frame → State → Prop} {kc ks bc bs : Nat} {T T' : TM} {I I' : IM} {J J' : JM} {P P' : PM} {pc : Nat} {ls : List (Nat × Value)} {st : List Value}
theorem r_ireturn {x : Int32} {ty : FieldType} (hr : M.2.2.2 = some ty) (hn : narrow ty (.int x) = .int x) (hd : decode M.2.1 pc = .ok (.ireturn, 1)) (hc : kc ≤ bc) (hs : ks ≤ bs) : WW E M R (ZM E bc bs (some (.int x)) T I J P) kc ks T I J P pc ls [.int x] := by
  intro p e s m args below meth c H locs la C hz hH hS hl
  refine W.widen (k := bc) (n := bs) hc hs ?_
  have hlocks : meth.locks = false := C.2.2.2.2.1
  exact W.zret (v := x) C.1 C.2.1 (C.2.2.2.1.trans hr) hn (fun t ht _ => ⟨rfl, by rw [ht]; exact hH, hS.F ht⟩) hS.2.2 hd
theorem r_lreturn {x : Int64} (hr : M.2.2.2 = some .long) (hd : decode M.2.1 pc = .ok (.lreturn, 1)) (hc : kc ≤ bc) (hs : ks ≤ bs) : WW E M R (ZM E bc bs (some (.long x)) T I J P) kc ks T I J P pc ls [.long x] := by
  intro p e s m args below meth c H locs la C hz hH hS hl
  refine W.widen (k := bc) (n := bs) hc hs ?_
  have hlocks : meth.locks = false := C.2.2.2.2.1
  exact W.lret (v := x) C.1 C.2.1 (C.2.2.2.1.trans hr) (fun t ht _ => ⟨rfl, by rw [ht]; exact hH, hS.F ht⟩) hS.2.2 hd
theorem r_return (hr : M.2.2.2 = none) (hd : decode M.2.1 pc = .ok (.return_, 1)) (hc : kc ≤ bc) (hs : ks ≤ bs) : WW E M R (ZM E bc bs none T I J P) kc ks T I J P pc ls [] := by
  intro p e s m args below meth c H locs la C hz hH hS hl
  refine W.widen (k := bc) (n := bs) hc hs ?_
  have hlocks : meth.locks = false := C.2.2.2.2.1
  exact W.vret C.1 C.2.1 (C.2.2.2.1.trans hr) (fun t ht _ => ⟨rfl, by rw [ht]; exact hH, hS.F ht⟩) hS.2.2 hd
theorem r_areturn {x : Nat} {C0 : String} (hr : M.2.2.2 = some (.object C0)) (hd : decode M.2.1 pc = .ok (.areturn, 1)) (hc : kc ≤ bc) (hs : ks ≤ bs) : WW E M R (ZM E bc bs (some (.ref x)) T I J P) kc ks T I J P pc ls [.ref x] := by
  intro p e s m args below meth c H locs la C hz hH hS hl
  refine W.widen (k := bc) (n := bs) hc hs ?_
  have hlocks : meth.locks = false := C.2.2.2.2.1
  exact W.aret C.1 C.2.1 (C.2.2.2.1.trans hr) (Or.inl ⟨_, rfl⟩) (Or.inr ⟨_, rfl⟩) (fun t ht _ => ⟨rfl, by rw [ht]; exact hH, hS.F ht⟩) hS.2.2 hd
theorem r_areturnN {C0 : String} (hr : M.2.2.2 = some (.object C0)) (hd : decode M.2.1 pc = .ok (.areturn, 1)) (hc : kc ≤ bc) (hs : ks ≤ bs) : WW E M R (ZM E bc bs (some .null) T I J P) kc ks T I J P pc ls [.null] := by
  intro p e s m args below meth c H locs la C hz hH hS hl
  refine W.widen (k := bc) (n := bs) hc hs ?_
  have hlocks : meth.locks = false := C.2.2.2.2.1
  exact W.aret C.1 C.2.1 (C.2.2.2.1.trans hr) (Or.inl ⟨_, rfl⟩) (Or.inl rfl) (fun t ht _ => ⟨rfl, by rw [ht]; exact hH, hS.F ht⟩) hS.2.2 hd
/-- a field by its place in a class file: own class, entry, kind, field, 0 int 1 long 2 reference, its type; 'w': 1 it isn't final, 2 it is, and the own class declares it -/
def LK (own : String) (idx ci k t : Nat) (ty : FieldType) (w : Nat) : Prop :=
  ci < 13 ∧ (lay ci)[k]? = some t ∧ ∃ (r : vw_C) (ref : String) (ty0 : Nat → FieldType), vwCl[ci]? = some r ∧ (∀ w ∈ u_ws r.1 r.2.1 r.2.2, w ∈ tbg) ∧ k < r.2.2 ∧ Cond.fieldLink own idx ref (r.2.1 k).2.1 (r.2.1 k).2.2.1 ∈ tbg ∧ (ref = (r.2.1 k).1 ∨ Cond.sameField ref (r.2.1 k).1 (r.2.1 k).2.1 (r.2.1 k).2.2.1 ∈ tbg) ∧ (∀ j, j < r.2.2 → parseFieldDescriptor (r.2.1 j).2.2.1 = some (ty0 j)) ∧ (∀ a, a < r.2.2 → ∀ b, b < r.2.2 → a ≠ b → (r.2.1 a).2.1 ≠ (r.2.1 b).2.1) ∧ parseFieldDescriptor (r.2.1 k).2.2.1 = some ty ∧ (w = 1 → (r.2.1 k).2.2.2 = false) ∧ (w = 2 → (r.2.1 k).2.2.2 = true ∧ (r.2.1 k).1 = own)
theorem r_get {idx ci k t a : Nat} {ty : FieldType} {w : Nat} (L : LK M.1.cls idx ci k t ty w) (hI : IS T a ci) (hd : decode M.2.1 pc = .ok (.getfield idx, 3))
    (kk : ∀ (p : Program) (e : Env) (s : State) (m : MethodId) (args : Array Value) (below : List Frame) (meth : Method) (c : Code) (H : Heap) (locs : List Loc) (la : Array Slot), CT E M p s m args meth c → s.heap.size + kc = E.2.1 + T.1 → HP E T I J P H → va_S (AA E) s.heap H locs → lv_has la M.2.2.1 (ls.map (cv2 E)) → W p E.1 e R s m args below meth c H locs kc ks (Z s args below) (F0 m (pc + 3) la (fv E I J P a k t :: st.map (cv E)))) : WW E M R Z kc ks T I J P pc ls (.ref a :: st) := by
  intro p e s m args below meth c H locs la C hz hH hS hl
  obtain ⟨hc, hlay, ⟨rC, rT, rN⟩, ref, ty0, h1, h2, h3, h4, h5, h6, h7, h8, h9, h10⟩ := L
  have hts := C.2.2.2.2.2.2.2.1
  have hK := C.2.2.2.2.2.2.2.2.2.1
  refine va_get (ci := ci) (C := rC) (T := rT) (N := rN) (v := fv E I J P a k t) C.1 C.2.1 hts h2 C.2.2.2.2.2.2.1 hK hH (a - 64) ((wl_at hI).trans (by rw [cell_obj hI.2.2 hc])) h1 k h3 (hts _ h4) ?_ (flds_get hlay) hd (kk p e s m args below meth c H locs la C hz hH hS hl)
  rcases h5 with h5 | h5
  · subst h5
    exact fun x hx => hx
  · exact fun x hx => u_same (hts _ h5) x hx
theorem r_getI {idx ci k a : Nat} {ty : FieldType} {w : Nat} (L : LK M.1.cls idx ci k 0 ty w) (hI : IS T a ci) (hd : decode M.2.1 pc = .ok (.getfield idx, 3)) (kk : WW E M R Z kc ks T I J P (pc + 3) ls (.int (I a k) :: st)) : WW E M R Z kc ks T I J P pc ls (.ref a :: st) := r_get L hI hd kk
theorem r_getJ {idx ci k a : Nat} {ty : FieldType} {w : Nat} (L : LK M.1.cls idx ci k 1 ty w) (hI : IS T a ci) (hd : decode M.2.1 pc = .ok (.getfield idx, 3)) (kk : WW E M R Z kc ks T I J P (pc + 3) ls (.long (J a k) :: st)) : WW E M R Z kc ks T I J P pc ls (.ref a :: st) := r_get L hI hd kk
theorem r_getP {idx ci k a b : Nat} {ty : FieldType} {w : Nat} (L : LK M.1.cls idx ci k 2 ty w) (hI : IS T a ci) (hP : P a k = some b) (hd : decode M.2.1 pc = .ok (.getfield idx, 3)) (kk : WW E M R Z kc ks T I J P (pc + 3) ls (.ref b :: st)) : WW E M R Z kc ks T I J P pc ls (.ref a :: st) :=
  r_get L hI hd (fun p e s m args below meth c H locs la C hz hH hS hl => by
    have h := kk p e s m args below meth c H locs la C hz hH hS hl
    have e1 : fv E I J P a k 2 = .ref (q_ E b) := by simp [fv, hP, va_rf]
    rw [e1]
    exact h)
theorem r_getN {idx ci k a : Nat} {ty : FieldType} {w : Nat} (L : LK M.1.cls idx ci k 2 ty w) (hI : IS T a ci) (hP : P a k = none) (hd : decode M.2.1 pc = .ok (.getfield idx, 3)) (kk : WW E M R Z kc ks T I J P (pc + 3) ls (.null :: st)) : WW E M R Z kc ks T I J P pc ls (.ref a :: st) :=
  r_get L hI hd (fun p e s m args below meth c H locs la C hz hH hS hl => by
    have h := kk p e s m args below meth c H locs la C hz hH hS hl
    have e1 : fv E I J P a k 2 = .null := by simp [fv, hP, va_rf]
    rw [e1]
    exact h)
theorem r_put {idx ci k t a : Nat} {ty : FieldType} {w : Nat} {v : Value} (L : LK M.1.cls idx ci k t ty w) (hw : w = 1 ∨ (w = 2 ∧ M.1.name = "<init>")) (hI : IS T a ci) (hv : fv E I' J' P' a k t = v) (hn : narrow ty v = v) (hf : fits ty v = true) (ho : ∀ j, j ≠ k → ∀ t, fv E I' J' P' a j t = fv E I J P a j t) (hoI : ∀ b, b ≠ a → I' b = I b) (hoJ : ∀ b, b ≠ a → J' b = J b) (hoP : ∀ b, b ≠ a → P' b = P b) (hd : decode M.2.1 pc = .ok (.putfield idx, 3))
    (kk : WW E M R Z kc ks T I' J' P' (pc + 3) ls st) {p : Program} {e : Env} {s : State} {m : MethodId} {args : Array Value} {below : List Frame} {meth : Method} {c : Code} {H : Heap} {locs : List Loc} {la : Array Slot} (C : CT E M p s m args meth c) (hz : s.heap.size + kc = E.2.1 + T.1) (hH : HP E T I J P H) (hS : va_S (AA E) s.heap H locs) (hl : lv_has la M.2.2.1 (ls.map (cv2 E))) :
    W p E.1 e R s m args below meth c H locs kc ks (Z s args below) (F0 m pc la (v :: .ref (q_ E a) :: st.map (cv E))) := by
  obtain ⟨hc, hlay, ⟨rC, rT, rN⟩, ref, ty0, h1, h2, h3, h4, h5, h6, h7, h8, h9, h10⟩ := L
  have hts := C.2.2.2.2.2.2.2.1
  have hK := C.2.2.2.2.2.2.2.2.2.1
  have hsame : ∀ x, s.fieldFound? (rT k).1 (rT k).2.1 (rT k).2.2.1 = some x → s.fieldFound? ref (rT k).2.1 (rT k).2.2.1 = some x := by
    rcases h5 with h5 | h5
    · subst h5
      exact fun x hx => hx
    · exact fun x hx => u_same (hts _ h5) x hx
  have hkk : ∀ (H1 : Heap) (locs1 : List Loc), va_P E.2.2.2.1 vwCl ((wl E T I J P).set (a - 64) (q_ E a, .inr (ci, (flds E I J P a ci).set k v))) H1 → va_D (AA E) ((wl E T I J P).set (a - 64) (q_ E a, .inr (ci, (flds E I J P a ci).set k v))) → va_S (AA E) s.heap H1 locs1 → W p E.1 e R s m args below meth c H1 locs1 kc ks (Z s args below) (F0 m (pc + 3) la (st.map (cv E))) := by
    intro H1 locs1 hP1 _ hS1
    refine kk p e s m args below meth c H1 locs1 la C hz ?_ hS1 hl
    unfold HP
    rw [← wl_set (I' := I') (J' := J') (P' := P') hI ?_ (fun b hb => cell_cong (hoI b hb) (hoJ b hb) (hoP b hb))]
    · exact hP1
    · rw [cell_obj hI.2.2 hc, ← flds_set hlay ho, hv]
  have he := (wl_at (E := E) (I := I) (J := J) (P := P) hI).trans (by rw [cell_obj hI.2.2 hc])
  have hlen : k < (flds E I J P a ci).length := by rw [flds_len]; exact (List.getElem?_eq_some_iff.mp hlay).1
  rcases hw with rfl | ⟨rfl, hin⟩
  · exact va_put (ci := ci) (C := rC) (T := rT) (N := rN) C.1 C.2.1 hts h2 ty0 h6 h7 C.2.2.2.2.2.2.1 hK hH wl_D hS (a - 64) he h1 k h3 (hts _ h4) hsame (h9 rfl) h8 hn hf hlen hd hkk
  · exact va_putF (ci := ci) (C := rC) (T := rT) (N := rN) C.1 C.2.1 hts h2 ty0 h6 h7 C.2.2.2.2.2.2.1 hK hH wl_D hS (a - 64) he h1 k h3 (hts _ h4) hsame (h10 rfl).1 (C.2.2.2.2.2.1 hin) (h10 rfl).2 h8 hn hf hlen hd hkk
theorem r_putI {idx ci k a : Nat} {ty : FieldType} {w : Nat} {x : Int32} (L : LK M.1.cls idx ci k 0 ty w) (hw : w = 1 ∨ (w = 2 ∧ M.1.name = "<init>")) (hI : IS T a ci) (hn : narrow ty (.int x) = .int x) (hf : fits ty (.int x) = true) (hd : decode M.2.1 pc = .ok (.putfield idx, 3)) (kk : WW E M R Z kc ks T (up2 I a k x) J P (pc + 3) ls st) : WW E M R Z kc ks T I J P pc ls (.int x :: .ref a :: st) :=
  fun p e s m args below meth c H locs la C hz hH hS hl => r_put (v := .int x) (I' := up2 I a k x) (J' := J) (P' := P) L hw hI (by simp [fv, up2]) hn hf (fun j hj t => by
    match t with
    | 0 => simp [fv, up2, hj]
    | 1 => rfl
    | n + 2 => rfl) (fun b hb => up2_oth I k x hb) (fun _ _ => rfl) (fun _ _ => rfl) hd kk C hz hH hS hl
theorem r_putJ {idx ci k a : Nat} {w : Nat} {x : Int64} (L : LK M.1.cls idx ci k 1 .long w) (hw : w = 1 ∨ (w = 2 ∧ M.1.name = "<init>")) (hI : IS T a ci) (hd : decode M.2.1 pc = .ok (.putfield idx, 3)) (kk : WW E M R Z kc ks T I (up2 J a k x) P (pc + 3) ls st) : WW E M R Z kc ks T I J P pc ls (.long x :: .ref a :: st) :=
  fun p e s m args below meth c H locs la C hz hH hS hl => r_put (v := .long x) (I' := I) (J' := up2 J a k x) (P' := P) L hw hI (by simp [fv, up2]) rfl rfl (fun j hj t => by
    match t with
    | 0 => rfl
    | 1 => simp [fv, up2, hj]
    | n + 2 => rfl) (fun _ _ => rfl) (fun b hb => up2_oth J k x hb) (fun _ _ => rfl) hd kk C hz hH hS hl
theorem r_putP {idx ci k a b : Nat} {ty : FieldType} {w : Nat} (L : LK M.1.cls idx ci k 2 ty w) (hw : w = 1 ∨ (w = 2 ∧ M.1.name = "<init>")) (hI : IS T a ci) (hn : ∀ n, narrow ty (.ref n) = .ref n) (hf : ∀ n, fits ty (.ref n) = true) (hd : decode M.2.1 pc = .ok (.putfield idx, 3)) (kk : WW E M R Z kc ks T I J (up2 P a k (some b)) (pc + 3) ls st) : WW E M R Z kc ks T I J P pc ls (.ref b :: .ref a :: st) :=
  fun p e s m args below meth c H locs la C hz hH hS hl => r_put (v := .ref (q_ E b)) (I' := I) (J' := J) (P' := up2 P a k (some b)) L hw hI (by simp [fv, up2, va_rf]) (hn _) (hf _) (fun j hj t => by
    match t with
    | 0 => rfl
    | 1 => rfl
    | n + 2 => simp [fv, up2, hj]) (fun _ _ => rfl) (fun _ _ => rfl) (fun b hb => up2_oth P k _ hb) hd kk C hz hH hS hl
theorem r_putN {idx ci k a : Nat} {ty : FieldType} {w : Nat} (L : LK M.1.cls idx ci k 2 ty w) (hw : w = 1 ∨ (w = 2 ∧ M.1.name = "<init>")) (hI : IS T a ci) (hn : narrow ty .null = .null) (hf : fits ty .null = true) (hd : decode M.2.1 pc = .ok (.putfield idx, 3)) (kk : WW E M R Z kc ks T I J (up2 P a k none) (pc + 3) ls st) : WW E M R Z kc ks T I J P pc ls (.null :: .ref a :: st) :=
  fun p e s m args below meth c H locs la C hz hH hS hl => r_put (v := .null) (I' := I) (J' := J) (P' := up2 P a k none) L hw hI (by simp [fv, up2, va_rf]) hn hf (fun j hj t => by
    match t with
    | 0 => rfl
    | 1 => rfl
    | n + 2 => simp [fv, up2, hj]) (fun _ _ => rfl) (fun _ _ => rfl) (fun b hb => up2_oth P k _ hb) hd kk C hz hH hS hl
/-- rows -/
theorem cell_I {a : Nat} (h : T.2.1 a = 13) : cell E T I J P a = .inl (E.2.2.2.2.1 13, T.2.2 a, .inl (I a)) := by simp [cell, h]
theorem cell_J {a : Nat} (h : T.2.1 a = 14) : cell E T I J P a = .inl (E.2.2.2.2.1 14, T.2.2 a, .inr (.inl (J a))) := by simp [cell, h]
theorem cell_B {a : Nat} (h : T.2.1 a = 15) : cell E T I J P a = .inl (E.2.2.2.2.1 15, T.2.2 a, .inl (I a)) := by simp [cell, h]
theorem cell_F {a : Nat} (h : T.2.1 a = 16) : cell E T I J P a = .inl (E.2.2.2.2.1 16, T.2.2 a, .inr (.inr (.inr (.inr (fun j => (P a j).map (q_ E)))))) := by simp [cell, h]
theorem cell_S {a : Nat} (h : T.2.1 a = 17) : cell E T I J P a = .inl (E.2.2.2.2.1 17, T.2.2 a, .inr (.inr (.inr (.inr (fun j => (P a j).map (q_ E)))))) := by simp [cell, h]
def inb (i : Int32) (n : Nat) : Bool := decide (0 ≤ i.toInt) && decide (i.toInt < n)
theorem inb_in {i : Int32} {n : Nat} (h : inb i n = true) : vp_in i n := by
  simp only [inb, Bool.and_eq_true, decide_eq_true_eq] at h
  exact vp_in_iff.mpr h
theorem r_iald {a : Nat} {i : Int32} (hI : IS T a 13) (hi : inb i (T.2.2 a) = true) (hd : decode M.2.1 pc = .ok (.iaload, 1)) (kk : WW E M R Z kc ks T I J P (pc + 1) ls (.int (I a i.toNatClampNeg) :: st)) : WW E M R Z kc ks T I J P pc ls (.int i :: .ref a :: st) :=
  fun p e s m args below meth c H locs la C hz hH hS hl => va_iald C.1 C.2.1 C.2.2.2.2.2.2.2.2.2.1 hH (a - 64) 0 ((wl_at hI).trans (by rw [cell_I hI.2.2])) rfl (inb_in hi) hd (kk p e s m args below meth c H locs la C hz hH hS hl)
theorem r_bald {a : Nat} {i : Int32} (hI : IS T a 15) (hi : inb i (T.2.2 a) = true) (hd : decode M.2.1 pc = .ok (.baload, 1)) (kk : WW E M R Z kc ks T I J P (pc + 1) ls (.int (I a i.toNatClampNeg) :: st)) : WW E M R Z kc ks T I J P pc ls (.int i :: .ref a :: st) :=
  fun p e s m args below meth c H locs la C hz hH hS hl => va_bald C.1 C.2.1 C.2.2.2.2.2.2.2.2.2.1 hH (a - 64) 2 ((wl_at hI).trans (by rw [cell_B hI.2.2])) rfl (inb_in hi) hd (kk p e s m args below meth c H locs la C hz hH hS hl)
theorem r_lald {a : Nat} {i : Int32} (hI : IS T a 14) (hi : inb i (T.2.2 a) = true) (hd : decode M.2.1 pc = .ok (.laload, 1)) (kk : WW E M R Z kc ks T I J P (pc + 1) ls (.long (J a i.toNatClampNeg) :: st)) : WW E M R Z kc ks T I J P pc ls (.int i :: .ref a :: st) :=
  fun p e s m args below meth c H locs la C hz hH hS hl => va_lald C.1 C.2.1 C.2.2.2.2.2.2.2.2.2.1 hH (a - 64) 1 ((wl_at hI).trans (by rw [cell_J hI.2.2])) rfl (inb_in hi) hd (kk p e s m args below meth c H locs la C hz hH hS hl)
theorem r_iast {a : Nat} {i x : Int32} (hI : IS T a 13) (hi : inb i (T.2.2 a) = true) (hd : decode M.2.1 pc = .ok (.iastore, 1)) (kk : WW E M R Z kc ks T (up2 I a i.toNatClampNeg x) J P (pc + 1) ls st) : WW E M R Z kc ks T I J P pc ls (.int x :: .int i :: .ref a :: st) :=
  fun p e s m args below meth c H locs la C hz hH hS hl => va_iast C.1 C.2.1 C.2.2.2.2.2.2.2.2.2.1 hH wl_D hS (a - 64) 0 ((wl_at hI).trans (by rw [cell_I hI.2.2])) rfl (inb_in hi) hd (fun H1 locs1 hP1 _ hS1 => kk p e s m args below meth c H1 locs1 la C hz (by
    unfold HP
    rw [← wl_set hI (cell_I hI.2.2) (fun b hb => cell_cong (up2_oth I _ _ hb) rfl rfl), up2_row]
    exact hP1) hS1 hl)
theorem r_bast {a : Nat} {i x : Int32} (hI : IS T a 15) (hi : inb i (T.2.2 a) = true) (hd : decode M.2.1 pc = .ok (.bastore, 1)) (kk : WW E M R Z kc ks T (up2 I a i.toNatClampNeg (vp_nar .byte x)) J P (pc + 1) ls st) : WW E M R Z kc ks T I J P pc ls (.int x :: .int i :: .ref a :: st) :=
  fun p e s m args below meth c H locs la C hz hH hS hl => va_bast C.1 C.2.1 C.2.2.2.2.2.2.2.2.2.1 hH wl_D hS (a - 64) 2 ((wl_at hI).trans (by rw [cell_B hI.2.2])) rfl (inb_in hi) hd (fun H1 locs1 hP1 _ hS1 => kk p e s m args below meth c H1 locs1 la C hz (by
    unfold HP
    rw [← wl_set hI (cell_B hI.2.2) (fun b hb => cell_cong (up2_oth I _ _ hb) rfl rfl), up2_row]
    exact hP1) hS1 hl)
theorem r_last {a : Nat} {i : Int32} {x : Int64} (hI : IS T a 14) (hi : inb i (T.2.2 a) = true) (hd : decode M.2.1 pc = .ok (.lastore, 1)) (kk : WW E M R Z kc ks T I (up2 J a i.toNatClampNeg x) P (pc + 1) ls st) : WW E M R Z kc ks T I J P pc ls (.long x :: .int i :: .ref a :: st) :=
  fun p e s m args below meth c H locs la C hz hH hS hl => va_last C.1 C.2.1 C.2.2.2.2.2.2.2.2.2.1 hH wl_D hS (a - 64) 1 ((wl_at hI).trans (by rw [cell_J hI.2.2])) rfl (inb_in hi) hd (fun H1 locs1 hP1 _ hS1 => kk p e s m args below meth c H1 locs1 la C hz (by
    unfold HP
    rw [← wl_set hI (cell_J hI.2.2) (fun b hb => cell_cong rfl (up2_oth J _ _ hb) rfl), up2_row]
    exact hP1) hS1 hl)
theorem r_alen {a k : Nat} {v : Int32} (hI : IS T a k) (hk : k = 13 ∨ k = 14 ∨ k = 15 ∨ k = 17) (hv : Int32.ofNat (T.2.2 a) = v) (hd : decode M.2.1 pc = .ok (.arraylength, 1)) (kk : WW E M R Z kc ks T I J P (pc + 1) ls (.int v :: st)) : WW E M R Z kc ks T I J P pc ls (.ref a :: st) := by
  intro p e s m args below meth c H locs la C hz hH hS hl
  have K := kk p e s m args below meth c H locs la C hz hH hS hl
  rcases hk with rfl | rfl | rfl | rfl
  · exact va_alen C.1 C.2.1 C.2.2.2.2.2.2.2.2.2.1 hH (a - 64) 0 ((wl_at hI).trans (by rw [cell_I hI.2.2])) rfl hv hd K
  · exact va_alen C.1 C.2.1 C.2.2.2.2.2.2.2.2.2.1 hH (a - 64) 1 ((wl_at hI).trans (by rw [cell_J hI.2.2])) rfl hv hd K
  · exact va_alen C.1 C.2.1 C.2.2.2.2.2.2.2.2.2.1 hH (a - 64) 2 ((wl_at hI).trans (by rw [cell_B hI.2.2])) rfl hv hd K
  · exact va_alen C.1 C.2.1 C.2.2.2.2.2.2.2.2.2.1 hH (a - 64) 4 ((wl_at hI).trans (by rw [cell_S hI.2.2])) rfl hv hd K
theorem r_aald {a k : Nat} {i : Int32} (hI : IS T a k) (hk : k = 16 ∨ k = 17) (hi : inb i (T.2.2 a) = true) (hd : decode M.2.1 pc = .ok (.aaload, 1)) {b : Nat} (hb : P a i.toNatClampNeg = some b) (kk : WW E M R Z kc ks T I J P (pc + 1) ls (.ref b :: st)) : WW E M R Z kc ks T I J P pc ls (.int i :: .ref a :: st) := by
  intro p e s m args below meth c H locs la C hz hH hS hl
  have K := kk p e s m args below meth c H locs la C hz hH hS hl
  have e1 : va_rf ((P a i.toNatClampNeg).map (q_ E)) = .ref (q_ E b) := by simp [hb, va_rf]
  rcases hk with rfl | rfl
  · refine va_aldq C.1 C.2.1 C.2.2.2.2.2.2.2.2.2.1 hH (a - 64) 3 ((wl_at hI).trans (by rw [cell_F hI.2.2])) rfl (inb_in hi) hd ?_
    rw [e1]; exact K
  · refine va_aldq C.1 C.2.1 C.2.2.2.2.2.2.2.2.2.1 hH (a - 64) 4 ((wl_at hI).trans (by rw [cell_S hI.2.2])) rfl (inb_in hi) hd ?_
    rw [e1]; exact K
theorem r_aaldN {a k : Nat} {i : Int32} (hI : IS T a k) (hk : k = 16 ∨ k = 17) (hi : inb i (T.2.2 a) = true) (hd : decode M.2.1 pc = .ok (.aaload, 1)) (hb : P a i.toNatClampNeg = none) (kk : WW E M R Z kc ks T I J P (pc + 1) ls (.null :: st)) : WW E M R Z kc ks T I J P pc ls (.int i :: .ref a :: st) := by
  intro p e s m args below meth c H locs la C hz hH hS hl
  have K := kk p e s m args below meth c H locs la C hz hH hS hl
  have e1 : va_rf ((P a i.toNatClampNeg).map (q_ E)) = .null := by simp [hb, va_rf]
  rcases hk with rfl | rfl
  · refine va_aldq C.1 C.2.1 C.2.2.2.2.2.2.2.2.2.1 hH (a - 64) 3 ((wl_at hI).trans (by rw [cell_F hI.2.2])) rfl (inb_in hi) hd ?_
    rw [e1]; exact K
  · refine va_aldq C.1 C.2.1 C.2.2.2.2.2.2.2.2.2.1 hH (a - 64) 4 ((wl_at hI).trans (by rw [cell_S hI.2.2])) rfl (inb_in hi) hd ?_
    rw [e1]; exact K
end HEAP
