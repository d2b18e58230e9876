/-! CALLS -/
theorem tbl_goodIn {w : Cond} (h : w ∈ tbg) : w ∈ tbg ∧ ((w.onTables && w.keeps) = true ∨ ∃ ty, w = .arrayClass ty) := ⟨h, good_of_word (List.mem_filter.mp h).2⟩
/-- what is known of a method that is called -/
def MI (M : MD) (n : Nat) : Prop := Cond.code M.1 M.2.1 M.2.2.1 M.2.2.2 ∈ tbg ∧ Cond.initialized M.1.cls ∈ tbg ∧ M.1.cls ≠ "java/lang/invoke/MethodHandle" ∧ M.1.cls ≠ "java/lang/invoke/VarHandle" ∧ (parseMethodDescriptor M.1.desc).map (fun d => d.parameters.length) = some n
theorem MI.good {M : MD} {n : Nat} (h : MI M n) : GoodIn tbg (wsM M) := fun w hw => by
  rcases List.mem_cons.mp hw with e | e
  · rw [e]; exact tbl_goodIn h.1
  · exact tbl_goodIn e
section CALLS
variable {E : GE} {M : MD} {R : Room} {Z : State → Array Value → List Frame → State → Prop} {kc ks : Nat} {T T' : TM} {I I' : IM} {J J' : JM} {P P' : PM} {pc : Nat} {ls : List (Nat × Value)} {st : List Value}
variable {p : Program} {e : Env} {s : State} {m : MethodId} {args : Array Value} {below : List Frame} {meth : Method} {c : Code} {H : Heap} {locs : List Loc} {la : Array Slot}
theorem callW {bc bs : Nat} {v : Option Value} {st0 : List Value} {a : Array Value} (hr : va_Run p E.1 e R s m args below meth c H locs kc ks bc bs (F0 m pc la st0) (st.map (cv E)) (QM E v T' I' J' P' a) (AA E)) (C : CT E M p s m args meth c) (hz : s.heap.size + kc = E.2.1 + T.1) (hT : T'.1 = T.1 + bc) (hS : va_S (AA E) s.heap H locs) (hl : lv_has la M.2.2.1 (ls.map (cv2 E)))
    (kk : WW E M R Z (kc + bc) (ks + bs) T' I' J' P' (pc + 3) ls (v.toList ++ st)) : W p E.1 e R s m args below meth c H locs kc ks (Z s args below) (F0 m pc la st0) := by
  intro U hU X
  obtain ⟨v', st₀, t, U', L, h0, X', hL, e1, e2, ⟨hv, hH', hz', hk'⟩, stp⟩ := hr U hU X
  cases hv
  rw [h0] at hz' hk'
  have hS' : va_S (AA E) s.heap U'.heap (locs ++ L) := ⟨Nat.le_trans hS.1 (by rw [e1]; exact hz'), fun q h1 h2 => by rw [e1, hk' q (Nat.lt_of_lt_of_le h1 hS.1) h2]; exact hS.2.1 q h1 h2, fun q hq => by
    rcases List.mem_append.mp hq with h | h
    · exact hS.2.2 q h
    · exact hL q h⟩
  obtain ⟨t2, a1, b1⟩ := kk p e s m args below meth c U'.heap (locs ++ L) la C (by omega) (by rw [e1]; exact hH') hS' hl U' rfl X'
  refine ⟨t2, stp t2 ?_, b1⟩
  cases v with
  | none => exact a1
  | some v => exact a1
theorem pre_blind {as : List Value} : FrameBlind (va_Pc (as.map (cv E)) (fun U => U.heap.size = E.2.1 + T.1 ∧ ST E U U.heap ∧ HP E T I J P U.heap)) := fun a U g mk q => by
  obtain ⟨q0, q1, q2, q3⟩ := q
  exact ⟨q0, q1, ST.same (u := U) (U := U.calling g mk a) rfl q2, q3⟩
theorem pre_at {as : List Value} (C : CT E M p s m args meth c) (hsz : H.size = E.2.1 + T.1) (hH : HP E T I J P H) (hS : va_S (AA E) s.heap H locs) : ∀ U : State, U.heap = H → s.WarmedH U.vm → va_Pc (as.map (cv E)) (fun U => U.heap.size = E.2.1 + T.1 ∧ ST E U U.heap ∧ HP E T I J P U.heap) (as.map (cv E)).toArray U := fun U hU hW =>
  ⟨rfl, by rw [hU]; exact hsz, by rw [hU]; exact ST.to hW hS C.2.2.2.2.2.2.2.2.1 C.2.2.2.2.2.2.2.2.2, by rw [hU]; exact hH⟩
theorem cat_cv (E : GE) (st : List Value) : ((st.map (cv E)).map fun v => v.category) = st.map fun v => v.category := by
  rw [List.map_map]
  apply List.map_congr_left
  intro v _
  exact cv_cat E v
theorem stk_cv {As st : List Value} : (As.reverse ++ st).map (cv E) = (As.map (cv E)).reverse ++ st.map (cv E) := by simp
theorem stk_cv1 {As st : List Value} {b : Nat} : (As.reverse ++ .ref b :: st).map (cv E) = (As.map (cv E)).reverse ++ .ref (q_ E b) :: st.map (cv E) := by simp [cv]
end CALLS
section CALLR
variable {E : GE} {M : MD} {R : Room} {Z : State → Array Value → List Frame → State → Prop} {kc ks : Nat} {T T' : TM} {I I' : IM} {J J' : JM} {P P' : PM} {pc : Nat} {ls : List (Nat × Value)} {st stk As : List Value} {v : Option Value} {M' : MD} {n idx d' bc' bs' b ci : Nat}
theorem r_static (hm : MI M' n) (hst : Cond.static M'.1 ∈ tbg) (hln : Cond.methodLink M.1.cls idx M'.1 ∈ tbg) (hc : Ctr E M' d' bc' bs' As T I J P v T' I' J' P') (hn : As.length = n) (hstk : stk = As.reverse ++ st) (hcat : (st.map fun v => v.category).sum ≤ 8) (hR : d' + 1 ≤ R.frames ∧ 8 + (M'.2.2.1 + 11) + 37 * d' ≤ R.locals) (hf : kc + bc' ≤ R.cells ∧ ks + bs' ≤ R.slots) (hd : decode M.2.1 pc = .ok (.invokestatic idx, 3))
    (kk : WW E M R Z (kc + bc') (ks + bs') T' I' J' P' (pc + 3) ls (v.toList ++ st)) : WW E M R Z kc ks T I J P pc ls stk := by
  intro p e s m args below meth c H locs la C hz hH hS hl U hU X
  have hsz := size_of C hU X hz hH hS
  have hts := C.2.2.2.2.2.2.2.1
  subst hstk
  refine callW (st := st) (va_runS (As := As.map (cv E)) ⟨C.1, C.2.1, C.2.2.1, C.2.2.2.2.2.2.1, hts⟩ hc.2 ⟨callB_of (ws' := tbg) (bytes := M'.2.1) (maxL := M'.2.2.1) (ret := M'.2.2.2) n hts hm.good rfl rfl rfl (hts _ hm.2.1) (hts _ hln) hm.2.2 hR, hts _ hst⟩ ⟨pre_blind, pre_at C hsz hH hS⟩ rfl (by rw [List.length_map]; exact hn) hl.1 stk_cv (lv_room (by rw [cat_cv]; exact hcat)) hd hf) C hz hc.1 hS hl kk U hU X
theorem r_virt {r : vw_C} (hm : MI M' n) (hin : Cond.instanceMethod M'.1 ∈ tbg) (hse : Cond.selects r.1 M'.1 M'.1 ∈ tbg) (hln : Cond.methodLink M.1.cls idx M'.1 ∈ tbg) (hr : vwCl[ci]? = some r) (hci : ci < 13) (hI : IS T b ci) (hc : Ctr E M' d' bc' bs' (.ref b :: As) T I J P v T' I' J' P') (hn : As.length = n) (hstk : stk = As.reverse ++ .ref b :: st) (hcat : (st.map fun v => v.category).sum ≤ 8) (hR : d' + 1 ≤ R.frames ∧ 8 + (M'.2.2.1 + 11) + 37 * d' ≤ R.locals) (hf : kc + bc' ≤ R.cells ∧ ks + bs' ≤ R.slots) (hd : decode M.2.1 pc = .ok (.invokevirtual idx, 3))
    (kk : WW E M R Z (kc + bc') (ks + bs') T' I' J' P' (pc + 3) ls (v.toList ++ st)) : WW E M R Z kc ks T I J P pc ls stk := by
  intro p e s m args below meth c H locs la C hz hH hS hl U hU X
  have hsz := size_of C hU X hz hH hS
  have hts := C.2.2.2.2.2.2.2.1
  subst hstk
  refine callW (st := st) (va_runV (C := r.1) (b := q_ E b) (As := As.map (cv E)) ⟨C.1, C.2.1, C.2.2.1, C.2.2.2.2.2.2.1, hts⟩ hc.2 ⟨callB_of (ws' := tbg) (bytes := M'.2.1) (maxL := M'.2.2.1) (ret := M'.2.2.2) n hts hm.good rfl rfl rfl (hts _ hm.2.1) (hts _ hln) hm.2.2 hR, hts _ hin, hts _ hse⟩ ⟨pre_blind, va_recv C.2.2.2.2.2.2.2.2.2.1 hH hr ((wl_at hI).trans (by rw [cell_obj hI.2.2 hci])), pre_at (as := .ref b :: As) C hsz hH hS⟩ rfl (by rw [List.length_map]; exact hn) hl.1 stk_cv1 (lv_room (by rw [cat_cv]; exact hcat)) hd hf) C hz hc.1 hS hl kk U hU X
theorem r_init (hm : MI M' n) (hnm : M'.1.name = "<init>") (hret : M'.2.2.2 = none) (hin : Cond.instanceMethod M'.1 ∈ tbg) (hln : Cond.methodLink M.1.cls idx M'.1 ∈ tbg) (hc : Ctr E M' d' bc' bs' (.ref b :: As) T I J P v T' I' J' P') (hn : As.length = n) (hstk : stk = As.reverse ++ .ref b :: st) (hcat : (st.map fun v => v.category).sum ≤ 8) (hR : d' + 1 ≤ R.frames ∧ 8 + (M'.2.2.1 + 11) + 37 * d' ≤ R.locals) (hf : kc + bc' ≤ R.cells ∧ ks + bs' ≤ R.slots) (hd : decode M.2.1 pc = .ok (.invokespecial idx, 3))
    (kk : WW E M R Z (kc + bc') (ks + bs') T' I' J' P' (pc + 3) ls (v.toList ++ st)) : WW E M R Z kc ks T I J P pc ls stk := by
  intro p e s m args below meth c H locs la C hz hH hS hl U hU X
  have hsz := size_of C hU X hz hH hS
  have hts := C.2.2.2.2.2.2.2.1
  subst hstk
  refine callW (st := st) (va_runI (b := q_ E b) (As := As.map (cv E)) ⟨C.1, C.2.1, C.2.2.1, C.2.2.2.2.2.2.1, hts⟩ hc.2 ⟨callB_of (ws' := tbg) (bytes := M'.2.1) (maxL := M'.2.2.1) (ret := none) n hts hm.good (by rw [← hret]; rfl) rfl rfl (hts _ hm.2.1) (hts _ hln) hm.2.2 hR, hnm, hts _ hin⟩ ⟨pre_blind, pre_at (as := .ref b :: As) C hsz hH hS⟩ rfl (by rw [List.length_map]; exact hn) hl.1 stk_cv1 (lv_room (by rw [cat_cv]; exact hcat)) hd hf) C hz hc.1 hS hl kk U hU X
theorem r_objInit (hln : Cond.methodLink M.1.cls idx Lib.objectInit ∈ tbg) (hR : 1 ≤ R.frames ∧ (st.map fun v => v.category).sum + 12 ≤ R.locals) (hin : Cond.instanceMethod Lib.objectInit ∈ tbg) (hco : Cond.code Lib.objectInit ⟨#[0xb1]⟩ 1 none ∈ tbg) (hd : decode M.2.1 pc = .ok (.invokespecial idx, 3)) (kk : WW E M R Z kc ks T I J P (pc + 3) ls st) : WW E M R Z kc ks T I J P pc ls (.ref b :: st) := by
  intro p e s m args below meth c H locs la C hz hH hS hl
  have hts := C.2.2.2.2.2.2.2.1
  exact W.objInit C.1 C.2.1 C.2.2.2.2.2.2.1 (hts _ hln) (hts _ hin) (hts _ hco) rfl (by rw [C.2.2.1]; exact hl.1) (a := q_ E b) (rest := st.map (cv E)) rfl hd hR.1 (by rw [cat_cv]; show 2 * 0 + _ + 12 ≤ _; omega) (kk p e s m args below meth c H locs la C hz hH hS hl)
end CALLR
