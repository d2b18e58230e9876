/-! rows of cards copied; the texts -/
def fOk (T : TM) (f : Nat → Option Nat) (n : Nat) : Bool := (List.range n).all (fun i => osel (f i) true (fun c => isF T c))
theorem fOk_of {T : TM} {f : Nat → Option Nat} {n i c : Nat} (h : fOk T f n = true) (hi : i < n) (hc : f i = some c) : isF T c = true := by
  have := List.all_eq_true.mp h i (List.mem_range.mpr hi)
  rw [osel_s hc] at this
  exact this
section REST9
variable {E : GE} {M : MD} {R : Room} {Z : State → Array Value → List Frame → State → Prop} {kc ks : Nat} {T : TM} {I : IM} {J : JM} {P : PM} {pc : Nat} {ls : List (Nat × Value)} {st : List Value} {idx : Nat}
theorem r_copyF6 {a a0 : Nat} {x : Int32} (hI0 : IS T a0 16) (hI : IS T a 16) (hel : fOk T (P a0) x.toNatClampNeg = true) (hx : ¬ x < 0) (h4 : x.toNatClampNeg ≤ T.2.2 a0) (h5 : x.toNatClampNeg ≤ T.2.2 a) (hR : 1 ≤ R.frames ∧ (st.map fun v => v.category).sum + (nativeFrameWords "java/lang/System" "arraycopy" 5 + 11) ≤ R.locals) (hln : Cond.methodLink M.1.cls idx arraycopyName ∈ tbg) (hnat : Cond.native arraycopyName ∈ tbg) (hstat : Cond.static arraycopyName ∈ tbg) (hini : Cond.initialized "java/lang/System" ∈ tbg) (hd : decode M.2.1 pc = .ok (.invokestatic idx, 3))
    (kk : WW E M R Z kc ks T I J (va_up P a (va_cpy (P a0) (P a) 0 0 x.toNatClampNeg)) (pc + 3) ls st) : WW E M R Z kc ks T I J P pc ls (.int x :: .int 0 :: .ref a :: .int 0 :: .ref a0 :: st) := by
  intro p e s m args below meth c H locs la C hz hH hS hl
  have hts := C.2.2.2.2.2.2.2.1
  refine va_copyM (E0 := RX0) (E1 := RX0) C.1 C.2.1 (by rw [C.2.2.1]; exact hl.1.symm) C.2.2.2.2.2.2.1 (hts _ hln) (hts _ hnat) (hts _ hstat) (hts _ hini) C.2.2.2.2.2.2.2.2.2.1 hH wl_D hS (a0 - 64) (a - 64) 3 3 ((wl_at hI0).trans (by rw [cell_F hI0.2.2])) ((wl_at hI).trans (by rw [cell_F hI.2.2])) rfl rfl (sp := 0) (dp := 0) (by decide) (by decide) hx (by show 0 + _ ≤ _; omega) (by show 0 + _ ≤ _; omega) (fun i hi y hy => ?_) hR.1 (by rw [cat_cv]; exact hR.2) hd (fun H1 locs1 hP1 _ hS1 => kk p e s m args below meth c H1 locs1 la C hz ?_ hS1 hl)
  · obtain ⟨c0, hc0, rfl⟩ := Option.map_eq_some_iff.mp hy
    have e0 : (0 : Int32).toNatClampNeg + i = i := by show 0 + i = i; omega
    rw [e0] at hc0
    exact any_F C hH (fOk_of hel hi hc0)
  · unfold HP
    rw [← wl_set hI (cell_F hI.2.2) (fun b hb => cell_cong rfl rfl (va_up_ne _ _ hb)), va_up_self]
    have e1 : (fun j => (va_cpy (P a0) (P a) 0 0 x.toNatClampNeg j).map (q_ E)) = va_cpy (fun j => (P a0 j).map (q_ E)) (fun j => (P a j).map (q_ E)) 0 0 x.toNatClampNeg := by
      funext j
      unfold va_cpy
      split <;> rfl
    rw [e1]
    exact hP1
theorem q_lo {n : Nat} (h : n < 64) : q_ E n = E.2.2.1 n := by unfold q_; rw [if_pos h]
/-- a text of the class file -/
theorem r_ldcS {i : Nat} (hi : i < 15) (hx : strIx.getD i 0 = idx) (hown : M.1.cls = "FallCards$Tape") (hd : decode M.2.1 pc = .ok (.ldc idx, 2)) (kk : WW E M R Z kc ks T I J P (pc + 2) ls (.ref i :: st)) : WW E M R Z kc ks T I J P pc ls st := by
  intro p e s m args below meth c H locs la C hz hH hS hl
  have h := kk p e s m args below meth c H locs la C hz hH hS hl
  rw [List.map_cons, show cv E (.ref i) = .ref (q_ E i) from rfl, q_lo (by omega)] at h
  have hk := C.2.2.2.2.2.2.2.2.2.2.2.2.2.2.1 i hi
  rw [hx] at hk
  exact va_ldcS C.1 C.2.1 (own := "FallCards$Tape") (by rw [← hown]; exact C.2.2.2.2.2.2.1) hk hd h
/-- a text's bytes, their number, one of them; its coder; COMPACT_STRINGS -/
theorem r_strV {i : Nat} (hi : i < 15) (hln : Cond.fieldLink M.1.cls idx "java/lang/String" "value" "[B" ∈ tbg) (hd : decode M.2.1 pc = .ok (.getfield idx, 3)) (kk : WW E M R Z kc ks T I J P (pc + 3) ls (.ref (30 + i) :: st)) : WW E M R Z kc ks T I J P pc ls (.ref i :: st) := by
  intro p e s m args below meth c H locs la C hz hH hS hl
  have h := kk p e s m args below meth c H locs la C hz hH hS hl
  rw [List.map_cons, show cv E (.ref (30 + i)) = .ref (q_ E (30 + i)) from rfl, q_lo (by omega)] at h
  rw [List.map_cons, show cv E (.ref i) = .ref (q_ E i) from rfl, q_lo (by omega)]
  exact vk_getf C.1 C.2.1 (C.2.2.2.2.2.2.2.2.2.2.2.2.2.1.1 i hi).2.2.1 hS C.2.2.2.2.2.2.1 (C.2.2.2.2.2.2.2.1 _ hln) (fun _ h => h) hd h
theorem r_strC {i : Nat} (hi : i < 15) (hln : Cond.fieldLink M.1.cls idx "java/lang/String" "coder" "B" ∈ tbg) (hd : decode M.2.1 pc = .ok (.getfield idx, 3)) (kk : WW E M R Z kc ks T I J P (pc + 3) ls (.int 0 :: st)) : WW E M R Z kc ks T I J P pc ls (.ref i :: st) := by
  intro p e s m args below meth c H locs la C hz hH hS hl
  have h := kk p e s m args below meth c H locs la C hz hH hS hl
  rw [List.map_cons, show cv E (.ref i) = .ref (q_ E i) from rfl, q_lo (by omega)]
  exact vk_getf C.1 C.2.1 (C.2.2.2.2.2.2.2.2.2.2.2.2.2.1.1 i hi).2.1 hS C.2.2.2.2.2.2.1 (C.2.2.2.2.2.2.2.1 _ hln) (fun _ h => h) hd h
theorem r_compact (hln : Cond.fieldLink M.1.cls idx "java/lang/String" "COMPACT_STRINGS" "Z" ∈ tbg) (hd : decode M.2.1 pc = .ok (.getstatic idx, 3)) (kk : WW E M R Z kc ks T I J P (pc + 3) ls (.int 1 :: st)) : WW E M R Z kc ks T I J P pc ls st :=
  fun p e s m args below meth c H locs la C hz hH hS hl => va_gets C.1 C.2.1 C.2.2.2.2.2.2.2.2.2.2.2.2.1.1 hS C.2.2.2.2.2.2.1 (C.2.2.2.2.2.2.2.1 _ hln) (fun _ h => h) hd (kk p e s m args below meth c H locs la C hz hH hS hl)
theorem r_strL {i : Nat} (hi : i < 15) (hd : decode M.2.1 pc = .ok (.arraylength, 1)) (kk : WW E M R Z kc ks T I J P (pc + 1) ls (.int (nI (strLn.getD i 0)) :: st)) : WW E M R Z kc ks T I J P pc ls (.ref (30 + i) :: st) := by
  intro p e s m args below meth c H locs la C hz hH hS hl
  have h := kk p e s m args below meth c H locs la C hz hH hS hl
  rw [List.map_cons, show cv E (.ref (30 + i)) = .ref (q_ E (30 + i)) from rfl, q_lo (by omega)]
  exact va_tlen C.1 C.2.1 (C.2.2.2.2.2.2.2.2.2.2.2.2.2.1.1 i hi).2.2.2 hS rfl hd h
theorem r_strB {i : Nat} {j : Int32} (hi : i < 15) (hj : inb j (strLn.getD i 0) = true) (hd : decode M.2.1 pc = .ok (.baload, 1)) (kk : WW E M R Z kc ks T I J P (pc + 1) ls (.int ((strBy.getD i []).getD j.toNatClampNeg 0) :: st)) : WW E M R Z kc ks T I J P pc ls (.int j :: .ref (30 + i) :: st) := by
  intro p e s m args below meth c H locs la C hz hH hS hl
  have h := kk p e s m args below meth c H locs la C hz hH hS hl
  rw [List.map_cons, List.map_cons, show cv E (.ref (30 + i)) = .ref (q_ E (30 + i)) from rfl, q_lo (by omega)]
  exact va_tb C.1 C.2.1 (C.2.2.2.2.2.2.2.2.2.2.2.2.2.1.1 i hi).2.2.2 hS (inb_in hj) rfl hd h
theorem r_fmt (hln : Cond.fieldLink M.1.cls idx "jdk/internal/util/Preconditions" "SIOOBE_FORMATTER" "Ljava/util/function/BiFunction;" ∈ tbg) (hd : decode M.2.1 pc = .ok (.getstatic idx, 3)) (k0 : WW E M R Z kc ks T I J P (pc + 3) ls (.null :: st)) (k1 : WW E M R Z kc ks T I J P (pc + 3) ls (.ref 22 :: st)) : WW E M R Z kc ks T I J P pc ls st := by
  intro p e s m args below meth c H locs la C hz hH hS hl
  rcases C.2.2.2.2.2.2.2.2.2.2.2.2.1.2 with h | h
  · exact va_gets C.1 C.2.1 h hS C.2.2.2.2.2.2.1 (C.2.2.2.2.2.2.2.1 _ hln) (fun _ h => h) hd (k0 p e s m args below meth c H locs la C hz hH hS hl)
  · exact va_gets C.1 C.2.1 h hS C.2.2.2.2.2.2.1 (C.2.2.2.2.2.2.2.1 _ hln) (fun _ h => h) hd (k1 p e s m args below meth c H locs la C hz hH hS hl)
/-- a method of a text -/
theorem r_virtS {st stk As : List Value} {v : Option Value} {M' : MD} {n d' i : Nat} (hi : i < 15) (hm : MI M' n) (hin : Cond.instanceMethod M'.1 ∈ tbg) (hse : Cond.selects "java/lang/String" M'.1 M'.1 ∈ tbg) (hln : Cond.methodLink M.1.cls idx M'.1 ∈ tbg) (hc : Ctr E M' d' 0 0 (.ref i :: As) T I J P v T I J P) (hn : As.length = n) (hstk : stk = As.reverse ++ .ref i :: st) (hcat : (st.map fun v => v.category).sum ≤ 8) (hR : d' + 1 ≤ R.frames ∧ 8 + (M'.2.2.1 + 11) + 37 * d' ≤ R.locals) (hf : kc ≤ R.cells ∧ ks ≤ R.slots) (hd : decode M.2.1 pc = .ok (.invokevirtual idx, 3))
    (kk : WW E M R Z kc ks T I J P (pc + 3) ls (v.toList ++ st)) : WW E M R Z kc ks T I J P pc ls stk := by
  intro p e s m args below meth c H locs la C hz hH hS hl U hU X
  have hsz := size_of C hU X hz hH hS
  have hts := C.2.2.2.2.2.2.2.1
  subst hstk
  have hrec := vk_recv (i := i) C.2.2.2.2.2.2.2.2.2.2.2.2.2.1 hi hS
  rw [← q_lo (E := E) (n := i) (by omega)] at hrec
  refine callW (st := st) (va_runV (C := "java/lang/String") (b := q_ E i) (As := As.map (cv E)) ⟨C.1, C.2.1, C.2.2.1, C.2.2.2.2.2.2.1, hts⟩ hc.2 ⟨callB_of (ws' := tbg) (bytes := M'.2.1) (maxL := M'.2.2.1) (ret := M'.2.2.2) n hts hm.good rfl rfl rfl (hts _ hm.2.1) (hts _ hln) hm.2.2 hR, hts _ hin, hts _ hse⟩ ⟨pre_blind, hrec, pre_at (as := .ref i :: As) C hsz hH hS⟩ rfl (by rw [List.length_map]; exact hn) hl.1 stk_cv1 (lv_room (by rw [cat_cv]; exact hcat)) hd hf) C hz hc.1 hS hl kk U hU X
end REST9
