/-! THE REST: rows of references, statics, texts, the script, the library, calls by kind -/
def fks : List Nat := [0, 2, 4, 5, 8, 9]
def isF (T : TM) (a : Nat) : Bool := decide (64 ≤ a) && (decide (a < 64 + T.1) && fks.contains (T.2.1 a))
theorem isF_of {T : TM} {a : Nat} (h : isF T a = true) : ∃ ci, ci ∈ fks ∧ IS T a ci := by
  simp only [isF, Bool.and_eq_true, decide_eq_true_eq, List.contains_iff_mem] at h
  exact ⟨T.2.1 a, h.2.2, h.1, h.2.1, rfl⟩
theorem isF_mk {T : TM} {a ci : Nat} (h : IS T a ci) (hc : ci ∈ fks) : isF T a = true := by
  obtain ⟨h1, h2, rfl⟩ := h
  simp [isF, h1, h2, hc]
section REST
variable {E : GE} {M : MD} {R : Room} {Z : State → Array Value → List Frame → State → Prop} {kc ks : Nat} {T T' : TM} {I I' : IM} {J J' : JM} {P P' : PM} {pc : Nat} {ls : List (Nat × Value)} {st stk As : List Value} {v : Option Value} {M' : MD} {n idx d' bc' bs' b ci : Nat}
theorem r_getF {k a w : Nat} (L : ∀ ci ∈ fks, LK M.1.cls idx ci k 0 .int w) (hI : isF T a = true) (hd : decode M.2.1 pc = .ok (.getfield idx, 3)) (kk : WW E M R Z kc ks T I J P (pc + 3) ls (.int (I a k) :: st)) : WW E M R Z kc ks T I J P pc ls (.ref a :: st) := by
  obtain ⟨ci, hc, h⟩ := isF_of hI
  exact r_getI (L ci hc) h hd kk
/-- a card or a sheet is put into a row -/
theorem any_F {p : Program} {s : State} {m : MethodId} {args : Array Value} {meth : Method} {c : Code} {H : Heap} (C : CT E M p s m args meth c) (hH : HP E T I J P H) (hF : isF T b = true) : va_Any RX0 s H (q_ E b) := by
  obtain ⟨ci, hc, h⟩ := isF_of hF
  have hK := C.2.2.2.2.2.2.2.2.2.1
  have hST := C.2.2.2.2.2.2.2.2.2
  have key : ∀ (r : vw_C), vwCl[ci]? = some r → ci < 13 → (r.1 = RX0 ∨ (r.1, RX0) ∈ cas) → va_Any RX0 s H (q_ E b) := by
    intro r hr hci ho
    refine va_rAny hK hH ((wl_at h).trans (by rw [cell_obj h.2.2 hci])) hr (fun comp c0 h1 h2 => ?_)
    rcases ho with ho | ho
    · rw [ho] at h2
      cases h1.symm.trans h2
      have hat := (hK.1 ci r hr).2
      rw [ho] at hat
      cases h1.symm.trans hat.1
      exact va_assign hat
    · obtain ⟨c1, t1, f1, f2, f3⟩ := Cond.castable_spec (va_Nw.use (A := args) rfl (hST.2.2.2.2.2.2.2.2.2.2.2.1 _ ho))
      cases f1.symm.trans h2
      cases f2.symm.trans h1
      exact f3
  rcases List.mem_cons.mp hc with rfl | hc
  · exact key _ rfl (by decide) (Or.inl rfl)
  · refine key (vwCl.getD ci (RX0, TX0, 4)) ?_ ?_ (Or.inr ?_)
    all_goals
      simp only [List.mem_cons, List.not_mem_nil, or_false] at hc
      rcases hc with rfl | rfl | rfl | rfl | rfl <;> first | rfl | decide +kernel
theorem r_aastF {a : Nat} {i : Int32} (hI : IS T a 16) (hi : inb i (T.2.2 a) = true) (hF : isF T b = true) (hd : decode M.2.1 pc = .ok (.aastore, 1)) (kk : WW E M R Z kc ks T I J (up2 P a i.toNatClampNeg (some b)) (pc + 1) ls st) : WW E M R Z kc ks T I J P pc ls (.ref b :: .int i :: .ref a :: st) :=
  fun p e s m args below meth c H locs la C hz hH hS hl => va_astqM C.1 C.2.1 C.2.2.2.2.2.2.2.2.2.1 hH wl_D hS (a - 64) 3 ((wl_at hI).trans (by rw [cell_F hI.2.2])) rfl (any_F C hH hF) (inb_in hi) hd (fun H1 locs1 hP1 _ hS1 => kk p e s m args below meth c H1 locs1 la C hz (by
    unfold HP
    rw [← wl_set hI (cell_F hI.2.2) (fun b hb => cell_cong rfl rfl (up2_oth P _ _ hb)), up2_row]
    have e1 : (fun j => (if j = i.toNatClampNeg then some b else P a j).map (q_ E)) = va_up (fun j => (P a j).map (q_ E)) i.toNatClampNeg (some (q_ E b)) := by
      funext j
      by_cases hj : j = i.toNatClampNeg <;> simp [va_up, hj]
    rw [e1]
    exact hP1) hS1 hl)
theorem r_aastS {a : Nat} {i : Int32} (hI : IS T a 17) (hi : inb i (T.2.2 a) = true) (hF : IS T b 3) (hd : decode M.2.1 pc = .ok (.aastore, 1)) (kk : WW E M R Z kc ks T I J (up2 P a i.toNatClampNeg (some b)) (pc + 1) ls st) : WW E M R Z kc ks T I J P pc ls (.ref b :: .int i :: .ref a :: st) :=
  fun p e s m args below meth c H locs la C hz hH hS hl => va_astq C.1 C.2.1 C.2.2.2.2.2.2.2.2.2.1 hH wl_D hS (a - 64) 4 (b - 64) 3 ((wl_at hI).trans (by rw [cell_S hI.2.2])) rfl ((wl_at hF).trans (by rw [cell_obj hF.2.2 (by decide)])) rfl (inb_in hi) hd (fun H1 locs1 hP1 _ hS1 => kk p e s m args below meth c H1 locs1 la C hz (by
    unfold HP
    rw [← wl_set hI (cell_S hI.2.2) (fun b hb => cell_cong rfl rfl (up2_oth P _ _ hb)), up2_row]
    have e1 : (fun j => (if j = i.toNatClampNeg then some b else P a j).map (q_ E)) = va_up (fun j => (P a j).map (q_ E)) i.toNatClampNeg (some (q_ E b)) := by
      funext j
      by_cases hj : j = i.toNatClampNeg <;> simp [va_up, hj]
    rw [e1]
    exact hP1) hS1 hl)
/-- System.arraycopy, from the first place on -/
theorem r_copyI {a a0 : Nat} {x : Int32} (hI0 : IS T a0 13) (hI : IS T a 13) (hx : ¬ x < 0) (h4 : x.toNatClampNeg ≤ T.2.2 a0) (h5 : x.toNatClampNeg ≤ T.2.2 a) (hR : 1 ≤ R.frames ∧ (st.map fun v => v.category).sum + (nativeFrameWords "java/lang/System" "arraycopy" 5 + 11) ≤ R.locals) (hln : Cond.methodLink M.1.cls idx arraycopyName ∈ tbg) (hnat : Cond.native arraycopyName ∈ tbg) (hstat : Cond.static arraycopyName ∈ tbg) (hini : Cond.initialized "java/lang/System" ∈ tbg) (hd : decode M.2.1 pc = .ok (.invokestatic idx, 3))
    (kk : WW E M R Z kc ks T (va_up I a (va_cpy (I a0) (I a) 0 0 x.toNatClampNeg)) J P (pc + 3) ls st) : WW E M R Z kc ks T I J P pc ls (.int x :: .int 0 :: .ref a :: .int 0 :: .ref a0 :: st) := by
  intro p e s m args below meth c H locs la C hz hH hS hl
  have hts := C.2.2.2.2.2.2.2.1
  exact va_copyi (ty := .int) C.1 C.2.1 (by rw [C.2.2.1]; exact hl.1.symm) C.2.2.2.2.2.2.1 (hts _ hln) (hts _ hnat) (hts _ hstat) (hts _ hini) C.2.2.2.2.2.2.2.2.2.1 hH wl_D hS (a0 - 64) (a - 64) 0 0 ((wl_at hI0).trans (by rw [cell_I hI0.2.2])) ((wl_at hI).trans (by rw [cell_I hI.2.2])) rfl rfl rfl (sp := 0) (dp := 0) (by decide) (by decide) hx (by show 0 + _ ≤ _; omega) (by show 0 + _ ≤ _; omega) (fun i hi => rfl) hR.1 (by rw [cat_cv]; exact hR.2) hd (fun H1 locs1 hP1 _ hS1 => kk p e s m args below meth c H1 locs1 la C hz (by
    unfold HP
    rw [← wl_set hI (cell_I hI.2.2) (fun b hb => cell_cong (va_up_ne _ _ hb) rfl rfl), va_up_self]
    exact hP1) hS1 hl)
theorem r_copyF {a a0 : Nat} {x : Int32} (hI0 : IS T a0 16) (hI : IS T a 16) (hel : ∀ i c, P a0 i = some c → isF T c = true) (hx : ¬ x < 0) (h4 : x.toNatClampNeg ≤ T.2.2 a0) (h5 : x.toNatClampNeg ≤ T.2.2 a) (hR : 1 ≤ R.frames ∧ (st.map fun v => v.category).sum + (nativeFrameWords "java/lang/System" "arraycopy" 5 + 11) ≤ R.locals) (hln : Cond.methodLink M.1.cls idx arraycopyName ∈ tbg) (hnat : Cond.native arraycopyName ∈ tbg) (hstat : Cond.static arraycopyName ∈ tbg) (hini : Cond.initialized "java/lang/System" ∈ tbg) (hd : decode M.2.1 pc = .ok (.invokestatic idx, 3))
    (kk : WW E M R Z kc ks T I J (va_up P a (va_cpy (P a0) (P a) 0 0 x.toNatClampNeg)) (pc + 3) ls st) : WW E M R Z kc ks T I J P pc ls (.int x :: .int 0 :: .ref a :: .int 0 :: .ref a0 :: st) := by
  intro p e s m args below meth c H locs la C hz hH hS hl
  have hts := C.2.2.2.2.2.2.2.1
  refine va_copyM (E0 := RX0) (E1 := RX0) C.1 C.2.1 (by rw [C.2.2.1]; exact hl.1.symm) C.2.2.2.2.2.2.1 (hts _ hln) (hts _ hnat) (hts _ hstat) (hts _ hini) C.2.2.2.2.2.2.2.2.2.1 hH wl_D hS (a0 - 64) (a - 64) 3 3 ((wl_at hI0).trans (by rw [cell_F hI0.2.2])) ((wl_at hI).trans (by rw [cell_F hI.2.2])) rfl rfl (sp := 0) (dp := 0) (by decide) (by decide) hx (by show 0 + _ ≤ _; omega) (by show 0 + _ ≤ _; omega) (fun i hi y hy => ?_) hR.1 (by rw [cat_cv]; exact hR.2) hd (fun H1 locs1 hP1 _ hS1 => kk p e s m args below meth c H1 locs1 la C hz ?_ hS1 hl)
  · obtain ⟨c0, hc0, rfl⟩ := Option.map_eq_some_iff.mp hy
    exact any_F C hH (hel _ _ hc0)
  · unfold HP
    rw [← wl_set hI (cell_F hI.2.2) (fun b hb => cell_cong rfl rfl (va_up_ne _ _ hb)), va_up_self]
    have e1 : (fun j => (va_cpy (P a0) (P a) 0 0 x.toNatClampNeg j).map (q_ E)) = va_cpy (fun j => (P a0 j).map (q_ E)) (fun j => (P a j).map (q_ E)) 0 0 x.toNatClampNeg := by
      funext j
      unfold va_cpy
      split <;> rfl
    rw [e1]
    exact hP1
/-- the table of sines -/
theorem r_sines {ref : String} (hln : Cond.fieldLink M.1.cls idx "FallCards" "SINES" "[I" ∈ tbg) (hd : decode M.2.1 pc = .ok (.getstatic idx, 3)) (kk : WW E M R Z kc ks T I J P (pc + 3) ls (.ref 20 :: st)) : WW E M R Z kc ks T I J P pc ls st :=
  fun p e s m args below meth c H locs la C hz hH hS hl => va_gets C.1 C.2.1 C.2.2.2.2.2.2.2.2.2.2.1 hS C.2.2.2.2.2.2.1 (C.2.2.2.2.2.2.2.1 _ hln) (fun _ h => h) hd (kk p e s m args below meth c H locs la C hz hH hS hl)
theorem r_sinld {i : Int32} (hi : inb i 10 = true) (hd : decode M.2.1 pc = .ok (.iaload, 1)) (kk : WW E M R Z kc ks T I J P (pc + 1) ls (.int (sinV.getD i.toNatClampNeg 0) :: st)) : WW E M R Z kc ks T I J P pc ls (.int i :: .ref 20 :: st) :=
  fun p e s m args below meth c H locs la C hz hH hS hl => va_ti C.1 C.2.1 C.2.2.2.2.2.2.2.2.2.2.2.1 hS (inb_in hi) rfl hd (kk p e s m args below meth c H locs la C hz hH hS hl)
/-- the script -/
theorem r_slen (hd : decode M.2.1 pc = .ok (.arraylength, 1)) (kk : WW E M R Z kc ks T I J P (pc + 1) ls (.int (Int32.ofNat E.2.2.2.2.2.1) :: st)) : WW E M R Z kc ks T I J P pc ls (.ref 21 :: st) :=
  fun p e s m args below meth c H locs la C hz hH hS hl => va_slen C.1 C.2.1 C.2.2.2.2.2.2.2.2.2.2.2.2.2.2.2.2.1 (Nat.lt_of_lt_of_le C.2.2.2.2.2.2.2.2.2.2.2.2.2.2.2.2.2.1 C.2.2.2.2.2.2.2.2.1) (fun z => absurd C.2.2.2.2.2.2.2.2.2.2.2.2.2.2.2.2.2.1 (Nat.not_lt.mpr z)) hS hd (kk p e s m args below meth c H locs la C hz hH hS hl)
theorem r_sld {i : Int32} (hi : inb i E.2.2.2.2.2.1 = true) (hd : decode M.2.1 pc = .ok (.iaload, 1)) (kk : WW E M R Z kc ks T I J P (pc + 1) ls (.int (E.2.2.2.2.2.2 i.toNatClampNeg) :: st)) : WW E M R Z kc ks T I J P pc ls (.int i :: .ref 21 :: st) :=
  fun p e s m args below meth c H locs la C hz hH hS hl => va_sld C.1 C.2.1 C.2.2.2.2.2.2.2.2.2.2.2.2.2.2.2.2.1 (Nat.lt_of_lt_of_le C.2.2.2.2.2.2.2.2.2.2.2.2.2.2.2.2.2.1 C.2.2.2.2.2.2.2.2.1) (fun z => absurd C.2.2.2.2.2.2.2.2.2.2.2.2.2.2.2.2.2.1 (Nat.not_lt.mpr z)) hS (inb_in hi) hd (kk p e s m args below meth c H locs la C hz hH hS hl)
/-- max, min, abs -/
theorem r_max {x y : Int32} (hln : Cond.methodLink M.1.cls idx Lib.Math.max.name ∈ tbg) (hst : Cond.static Lib.Math.max.name ∈ tbg) (hini : Cond.initialized "java/lang/Math" ∈ tbg) (hco : Cond.code Lib.Math.max.name Lib.Math.max.code 2 (some .int) ∈ tbg) (hR : 1 ≤ R.frames ∧ (st.map fun v => v.category).sum + 13 ≤ R.locals ∧ kc ≤ R.cells ∧ ks ≤ R.slots) (hd : decode M.2.1 pc = .ok (.invokestatic idx, 3)) (kk : WW E M R Z kc ks T I J P (pc + 3) ls (.int (if x < y then y else x) :: st)) : WW E M R Z kc ks T I J P pc ls (.int y :: .int x :: st) :=
  fun p e s m args below meth c H locs la C hz hH hS hl => va_mmax C.1 C.2.1 (by rw [C.2.2.1]; exact hl.1.symm) C.2.2.2.2.2.2.1 (C.2.2.2.2.2.2.2.1 _ hln) (C.2.2.2.2.2.2.2.1 _ hst) (C.2.2.2.2.2.2.2.1 _ hini) (C.2.2.2.2.2.2.2.1 _ hco) hR.1 (by rw [cat_cv]; exact hR.2.1) hR.2.2.1 hR.2.2.2 hd (kk p e s m args below meth c H locs la C hz hH hS hl)
theorem r_min {x y : Int32} (hln : Cond.methodLink M.1.cls idx Lib.Math.min.name ∈ tbg) (hst : Cond.static Lib.Math.min.name ∈ tbg) (hini : Cond.initialized "java/lang/Math" ∈ tbg) (hco : Cond.code Lib.Math.min.name Lib.Math.min.code 2 (some .int) ∈ tbg) (hR : 1 ≤ R.frames ∧ (st.map fun v => v.category).sum + 13 ≤ R.locals ∧ kc ≤ R.cells ∧ ks ≤ R.slots) (hd : decode M.2.1 pc = .ok (.invokestatic idx, 3)) (kk : WW E M R Z kc ks T I J P (pc + 3) ls (.int (if y < x then y else x) :: st)) : WW E M R Z kc ks T I J P pc ls (.int y :: .int x :: st) :=
  fun p e s m args below meth c H locs la C hz hH hS hl => va_mmin C.1 C.2.1 (by rw [C.2.2.1]; exact hl.1.symm) C.2.2.2.2.2.2.1 (C.2.2.2.2.2.2.2.1 _ hln) (C.2.2.2.2.2.2.2.1 _ hst) (C.2.2.2.2.2.2.2.1 _ hini) (C.2.2.2.2.2.2.2.1 _ hco) hR.1 (by rw [cat_cv]; exact hR.2.1) hR.2.2.1 hR.2.2.2 hd (kk p e s m args below meth c H locs la C hz hH hS hl)
theorem r_abs {x : Int32} (hln : Cond.methodLink M.1.cls idx Lib.Math.abs.name ∈ tbg) (hst : Cond.static Lib.Math.abs.name ∈ tbg) (hini : Cond.initialized "java/lang/Math" ∈ tbg) (hco : Cond.code Lib.Math.abs.name Lib.Math.abs.code 1 (some .int) ∈ tbg) (hR : 1 ≤ R.frames ∧ (st.map fun v => v.category).sum + 13 ≤ R.locals ∧ kc ≤ R.cells ∧ ks ≤ R.slots) (hd : decode M.2.1 pc = .ok (.invokestatic idx, 3)) (kk : WW E M R Z kc ks T I J P (pc + 3) ls (.int (if 0 ≤ x then x else 0 - x) :: st)) : WW E M R Z kc ks T I J P pc ls (.int x :: st) :=
  fun p e s m args below meth c H locs la C hz hH hS hl => va_mabs C.1 C.2.1 (by rw [C.2.2.1]; exact hl.1.symm) C.2.2.2.2.2.2.1 (C.2.2.2.2.2.2.2.1 _ hln) (C.2.2.2.2.2.2.2.1 _ hst) (C.2.2.2.2.2.2.2.1 _ hini) (C.2.2.2.2.2.2.2.1 _ hco) hR.1 (by rw [cat_cv]; exact hR.2.1) hR.2.2.1 hR.2.2.2 hd (kk p e s m args below meth c H locs la C hz hH hS hl)
theorem r_minL {x y : Int64} (hln : Cond.methodLink M.1.cls idx Lib.MathLoose.min_long.x ∈ tbg) (hst : Cond.static Lib.MathLoose.min_long.x ∈ tbg) (hini : Cond.initialized "java/lang/Math" ∈ tbg) (hco : Cond.code Lib.MathLoose.min_long.x Lib.MathLoose.min_long.code 4 (some .long) ∈ tbg) (hR : 1 ≤ R.frames ∧ (st.map fun v => v.category).sum + 15 ≤ R.locals ∧ kc ≤ R.cells ∧ ks ≤ R.slots) (hd : decode M.2.1 pc = .ok (.invokestatic idx, 3)) (kk : WW E M R Z kc ks T I J P (pc + 3) ls (.long (if y < x then y else x) :: st)) : WW E M R Z kc ks T I J P pc ls (.long y :: .long x :: st) :=
  fun p e s m args below meth c H locs la C hz hH hS hl => va_mmin_long C.1 C.2.1 (by rw [C.2.2.1]; exact hl.1.symm) C.2.2.2.2.2.2.1 (C.2.2.2.2.2.2.2.1 _ hln) (C.2.2.2.2.2.2.2.1 _ hst) (C.2.2.2.2.2.2.2.1 _ hini) (C.2.2.2.2.2.2.2.1 _ hco) hR.1 (by rw [cat_cv]; exact hR.2.1) hR.2.2.1 hR.2.2.2 hd (kk p e s m args below meth c H locs la C hz hH hS hl)
theorem r_absL {x : Int64} (hln : Cond.methodLink M.1.cls idx Lib.MathLoose.abs_long.x ∈ tbg) (hst : Cond.static Lib.MathLoose.abs_long.x ∈ tbg) (hini : Cond.initialized "java/lang/Math" ∈ tbg) (hco : Cond.code Lib.MathLoose.abs_long.x Lib.MathLoose.abs_long.code 2 (some .long) ∈ tbg) (hR : 1 ≤ R.frames ∧ (st.map fun v => v.category).sum + 13 ≤ R.locals ∧ kc ≤ R.cells ∧ ks ≤ R.slots) (hd : decode M.2.1 pc = .ok (.invokestatic idx, 3)) (kk : WW E M R Z kc ks T I J P (pc + 3) ls (.long (if 0 < x then x else -x) :: st)) : WW E M R Z kc ks T I J P pc ls (.long x :: st) :=
  fun p e s m args below meth c H locs la C hz hH hS hl => va_mabs_long C.1 C.2.1 (by rw [C.2.2.1]; exact hl.1.symm) C.2.2.2.2.2.2.1 (C.2.2.2.2.2.2.2.1 _ hln) (C.2.2.2.2.2.2.2.1 _ hst) (C.2.2.2.2.2.2.2.1 _ hini) (C.2.2.2.2.2.2.2.1 _ hco) hR.1 (by rw [cat_cv]; exact hR.2.1) hR.2.2.1 hR.2.2.2 hd (kk p e s m args below meth c H locs la C hz hH hS hl)
/-- a nest mate's private static method -/
theorem r_staticN (hm : MI M' n) (hst : Cond.static M'.1 ∈ tbg) (hown : M.1.cls = RX1) (hln : (idx, M'.1) ∈ nests) (hc : Ctr E M' d' bc' bs' As T I J P v T' I' J' P') (hn : As.length = n) (hstk : stk = As.reverse ++ st) (hcat : (st.map fun v => v.category).sum ≤ 8) (hR : d' + 1 ≤ R.frames ∧ 8 + (M'.2.2.1 + 11) + 37 * d' ≤ R.locals) (hf : kc + bc' ≤ R.cells ∧ ks + bs' ≤ R.slots) (hd : decode M.2.1 pc = .ok (.invokestatic idx, 3))
    (kk : WW E M R Z (kc + bc') (ks + bs') T' I' J' P' (pc + 3) ls (v.toList ++ st)) : WW E M R Z kc ks T I J P pc ls stk := by
  intro p e s m args below meth c H locs la C hz hH hS hl U hU X
  have hsz := size_of C hU X hz hH hS
  have hts := C.2.2.2.2.2.2.2.1
  have hnw := C.2.2.2.2.2.2.2.2.2.2.2.2.2.2.2.2.2.2.2.2.2 _ hln
  subst hstk
  refine callW (st := st) (va_runSN (own := M.1.cls) (host := RX11) (As := As.map (cv E)) ⟨C.1, C.2.1, C.2.2.1, C.2.2.2.2.2.2.1, hts⟩ hc.2 ⟨va_cnB (ws' := tbg) (bytes := M'.2.1) (maxL := M'.2.2.1) (ret := M'.2.2.2) n hts hm.good rfl rfl rfl (by rw [hown]; exact hnw) (hts _ hm.2.1) hm.2.2 hR, hts _ hst, trivial⟩ ⟨pre_blind, pre_at C hsz hH hS⟩ rfl (by rw [List.length_map]; exact hn) hl.1 stk_cv (lv_room (by rw [cat_cv]; exact hcat)) hd hf) C hz hc.1 hS hl kk U hU X
/-- a method that a kind may override: x is named, 'owner' declares it, M' is what a thing of kind ci does -/
theorem r_virtU {r : vw_C} {x : MethodName} {owner : String} {b0 : ByteArray} {m0 : Nat} {r0 : Option FieldType} (hm : MI M' n) (hx : Cond.methodLink M.1.cls idx x ∈ tbg) (hsm : Cond.sameMethod x.cls owner x.name x.desc ∈ tbg) (hio : Cond.instanceMethod ⟨owner, x.name, x.desc⟩ ∈ tbg) (hse : Cond.selects r.1 x M'.1 ∈ tbg) (hin : Cond.instanceMethod M'.1 ∈ tbg) (h0 : Cond.code ⟨owner, x.name, x.desc⟩ b0 m0 r0 ∈ tbg) (hod : owner ≠ "java/lang/invoke/MethodHandle" ∧ owner ≠ "java/lang/invoke/VarHandle" ∧ (parseMethodDescriptor x.desc).map (fun d => d.parameters.length) = some n) (hr : vwCl[ci]? = some r) (hci : ci < 13) (hI : IS T b ci) (hc : Ctr E M' d' bc' bs' (.ref b :: As) T I J P v T' I' J' P') (hn : As.length = n) (hstk : stk = As.reverse ++ .ref b :: st) (hcat : (st.map fun v => v.category).sum ≤ 8) (hR : d' + 1 ≤ R.frames ∧ 8 + (M'.2.2.1 + 11) + 37 * d' ≤ R.locals) (hf : kc + bc' ≤ R.cells ∧ ks + bs' ≤ R.slots) (hd : decode M.2.1 pc = .ok (.invokevirtual idx, 3))
    (kk : WW E M R Z (kc + bc') (ks + bs') T' I' J' P' (pc + 3) ls (v.toList ++ st)) : WW E M R Z kc ks T I J P pc ls stk := by
  intro p e s m args below meth c H locs la C hz hH hS hl U hU X
  have hsz := size_of C hU X hz hH hS
  have hts := C.2.2.2.2.2.2.2.1
  subst hstk
  have hG : GoodIn tbg (va_wsO M.1.cls idx r.1 owner x M'.1 (wsM M')) := by
    intro w hw
    unfold va_wsO at hw
    rcases List.mem_append.mp hw with h | h
    · simp only [List.mem_cons, List.not_mem_nil, or_false] at h
      rcases h with rfl | rfl | rfl | rfl | rfl | rfl
      · exact tbl_goodIn hx
      · exact tbl_goodIn hsm
      · exact tbl_goodIn hio
      · exact tbl_goodIn hse
      · exact tbl_goodIn hin
      · exact tbl_goodIn hm.2.1
    · exact hm.good w h
  refine callW (st := st) (va_runU (C := r.1) (owner := owner) (x := x) (b := q_ E b) (As := As.map (cv E)) ⟨C.1, C.2.1, C.2.2.1, C.2.2.2.2.2.2.1, hts⟩ hc.2 (va_cwO (ws' := tbg) (bytes := M'.2.1) (maxL := M'.2.2.1) (ret := M'.2.2.2) n hts hG rfl rfl rfl h0 hod hR) ⟨pre_blind, va_recv C.2.2.2.2.2.2.2.2.2.1 hH hr ((wl_at hI).trans (by rw [cell_obj hI.2.2 hci])), pre_at (as := .ref b :: As) C hsz hH hS⟩ rfl (by rw [List.length_map]; exact hn) hl.1 stk_cv1 (lv_room (by rw [cat_cv]; exact hcat)) hd hf) C hz hc.1 hS hl kk U hU X
end REST
