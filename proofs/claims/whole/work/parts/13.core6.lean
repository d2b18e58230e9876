/-! MAKING, AND THE OTHER INSTRUCTIONS -/
theorem ctr_introF {E : GE} {M : MD} {d bc bs : Nat} {as : List Value} {T : TM} {I : IM} {J : JM} {P : PM} {v : Option Value} {T' : TM} {I' : IM} {J' : JM} {P' : PM} (hT : T'.1 = T.1 + bc) (hy : plainFor M.1 = true) (hl : (lg_sl as).length ≤ M.2.2.1)
    (h : WW E M (RM d bc bs) (ZM E bc bs v T' I' J' P') 0 0 T I J P 0 (lv_args 0 as) []) : Ctr E M d bc bs as T I J P v T' I' J' P' := by
  refine ⟨hT, va_MetF (cc := M.2.1) (maxL := M.2.2.1) (ret := M.2.2.2) hy rfl ?_⟩
  intro p e s m args below meth c s₁ B hml hv
  obtain ⟨rfl, hz, hST, hP⟩ := hv
  have hb : E.2.1 ≤ s.heap.size := by omega
  have hts := atoms_spec (ws := wsM M) B.pre
  rw [lg_entry_eq]
  exact h p e s m _ below meth c s.heap [] _ ⟨B.exec, B.bytes, hml, B.returns, B.notSynchronized, (fun h => (name_of_methodNamed B.named B.method).1.trans h), findClass_of_methodNamed B.named, fun w hw => hts w (List.mem_cons_of_mem _ hw), hb, hST⟩ hz hP va_S.rf (by rw [← lv_args_cv]; exact lv_entry _ (by rw [lg_sl_cv]; exact hl))
/-- a cell more, of a kind, all its numbers 0 -/
def nT (T : TM) (k n : Nat) : TM := (T.1 + 1, va_up T.2.1 (64 + T.1) k, va_up T.2.2 (64 + T.1) n)
def nI0 (T : TM) (I : IM) : IM := va_up I (64 + T.1) (fun _ => 0)
def nJ0 (T : TM) (J : JM) : JM := va_up J (64 + T.1) (fun _ => 0)
def nP0 (T : TM) (P : PM) : PM := va_up P (64 + T.1) (fun _ => none)
theorem cell_old {E : GE} {T : TM} {I : IM} {J : JM} {P : PM} {k n b : Nat} (h : b ≠ 64 + T.1) : cell E (nT T k n) (nI0 T I) (nJ0 T J) (nP0 T P) b = cell E T I J P b := by
  have h1 : (nT T k n).2.1 b = T.2.1 b := va_up_ne _ _ h
  have h2 : (nT T k n).2.2 b = T.2.2 b := va_up_ne _ _ h
  rw [← cell_cong (E := E) (T := T) (I := I) (I' := nI0 T I) (J := J) (J' := nJ0 T J) (P := P) (P' := nP0 T P) (va_up_ne _ _ h) (va_up_ne _ _ h) (va_up_ne _ _ h)]
  simp only [cell, h1, h2]
theorem wl_push {E : GE} {T : TM} {I : IM} {J : JM} {P : PM} {k n : Nat} {e : va_E} (he : cell E (nT T k n) (nI0 T I) (nJ0 T J) (nP0 T P) (64 + T.1) = e) : wl E T I J P ++ [(E.2.1 + T.1, e)] = wl E (nT T k n) (nI0 T I) (nJ0 T J) (nP0 T P) := by
  unfold wl
  rw [show (nT T k n).1 = T.1 + 1 from rfl, List.range_succ, List.map_append, List.map_cons, List.map_nil, he]
  congr 1
  apply List.map_congr_left
  intro i hi
  rw [cell_old (by have := List.mem_range.mp hi; omega)]
/-- where the new cell lies -/
theorem new_at {E : GE} {M : MD} {p : Program} {l : Launch} {e : Env} {R : Room} {s : State} {m : MethodId} {args : Array Value} {below : List Frame} {meth : Method} {c : Code} {U : State} {H1 : Heap} {locs : List Loc} {kc ks q : Nat} {x : va_E} {T : TM} {I : IM} {J : JM} {P : PM} (hU : U.heap = H1) (X : Stand p l e R s m args below meth c U locs (kc + 1) ks) (hz : s.heap.size + kc = E.2.1 + T.1) (hP : va_P E.2.2.2.1 vwCl (wl E T I J P ++ [(q, x)]) H1) (hD : va_D (AA E) (wl E T I J P ++ [(q, x)])) : q = E.2.1 + T.1 := by
  have hlen : (wl E T I J P).length = T.1 := by simp [wl]
  have hlast : (wl E T I J P ++ [(q, x)])[T.1]? = some (q, x) := by
    rw [List.getElem?_append_right (by omega), hlen, Nat.sub_self]
    rfl
  have h1 : H1.size ≤ s.heap.size + (kc + 1) := by rw [← hU]; exact X.heapSize
  have h2 : q < H1.size := (hP T.1 _ hlast).lt
  have h3 : E.2.1 ≤ q := hD.2 T.1 _ hlast
  by_cases h4 : q < E.2.1 + T.1
  · have h5 : (wl E T I J P ++ [(q, x)])[q - E.2.1]? = some (E.2.1 + (q - E.2.1), cell E T I J P (64 + (q - E.2.1))) := by
      rw [List.getElem?_append_left (by omega), wl_get (by omega)]
    have h6 := hD.1 _ _ _ _ h5 hlast (show E.2.1 + (q - E.2.1) = q by omega)
    omega
  · omega
def CI (ci : Nat) : Prop := ci < 13 ∧ ∃ (r : vw_C) (ty0 : Nat → FieldType), vwCl[ci]? = some r ∧ (∀ w ∈ u_ws r.1 r.2.1 r.2.2, w ∈ tbg) ∧ (∀ k, k < r.2.2 → parseFieldDescriptor (r.2.1 k).2.2.1 = some (ty0 k)) ∧ Cond.instantiable r.1 r.2.2 ∈ tbg ∧ Cond.initialized r.1 ∈ tbg ∧ r.2.2 = (lay ci).length ∧ ∀ j, j < r.2.2 → defaultValue (ty0 j) = (if (lay ci).getD j 0 = 0 then .int 0 else if (lay ci).getD j 0 = 1 then .long 0 else .null)
section MAKE
variable {E : GE} {M : MD} {R : Room} {Z : State → Array Value → List Frame → State → Prop} {kc ks : Nat} {T T' : TM} {I I' : IM} {J J' : JM} {P P' : PM} {pc : Nat} {ls : List (Nat × Value)} {st : List Value}
theorem r_new {idx ci : Nat} {nm : String} (hci : CI ci) (hnm : (vwCl[ci]?).map (fun r => r.1) = some nm) (hcl : Cond.classLink M.1.cls idx nm ∈ tbg) (hf : kc + 1 ≤ R.cells ∧ ks + (lay ci).length ≤ R.slots) (hd : decode M.2.1 pc = .ok (.new idx, 3)) (kk : WW E M R Z (kc + 1) (ks + (lay ci).length) (nT T ci 0) (nI0 T I) (nJ0 T J) (nP0 T P) (pc + 3) ls (.ref (64 + T.1) :: st)) : WW E M R Z kc ks T I J P pc ls st := by
  intro p e s m args below meth c H locs la C hz hH hS hl
  obtain ⟨hc, ⟨rC, rT, rN⟩, ty0, h1, h2, h3, h4, h5, h6, h7⟩ := hci
  have hts := C.2.2.2.2.2.2.2.1
  have hK := C.2.2.2.2.2.2.2.2.2.1
  rw [h1] at hnm
  cases hnm
  have h6 : rN = (lay ci).length := h6
  subst h6
  have hcell : cell E (nT T ci 0) (nI0 T I) (nJ0 T J) (nP0 T P) (64 + T.1) = .inr (ci, flds E (nI0 T I) (nJ0 T J) (nP0 T P) (64 + T.1) ci) := cell_obj (va_up_self _ _ _) hc
  refine va_new (ci := ci) (C := rC) (T := rT) (N := (lay ci).length) (fs := flds E (nI0 T I) (nJ0 T J) (nP0 T P) (64 + T.1) ci) C.1 C.2.1 hts h2 ty0 h3 C.2.2.2.2.2.2.1 (hts _ hcl) (hts _ h4) (hts _ h5) hK hH wl_D hS (fun q hq => Nat.le_trans C.2.2.2.2.2.2.2.2.1 hq) h1 (fun j hj => ?_) hf.1 hf.2 hd (fun q H1 hP1 hD1 hS1 U hU X => ?_)
  · rw [h7 j hj]
    have h8 : (lay ci)[j]? = some ((lay ci).getD j 0) := by rw [List.getD_eq_getElem?_getD, List.getElem?_eq_getElem hj]; rfl
    have h9 : (flds E (nI0 T I) (nJ0 T J) (nP0 T P) (64 + T.1) ci).getD j .null = fv E (nI0 T I) (nJ0 T J) (nP0 T P) (64 + T.1) j ((lay ci).getD j 0) := by
      rw [List.getD_eq_getElem?_getD, flds_get h8]
      rfl
    show _ = (flds E (nI0 T I) (nJ0 T J) (nP0 T P) (64 + T.1) ci).getD j .null
    rw [h9]
    generalize (lay ci).getD j 0 = t
    match t with
    | 0 => simp [fv, nI0, va_up]
    | 1 => simp [fv, nJ0, va_up]
    | n + 2 => simp [fv, nP0, va_up, va_rf]
  · have hq := new_at (M := M) hU X hz hP1 hD1
    subst hq
    rw [wl_push hcell] at hP1
    have h := kk p e s m args below meth c H1 locs la C (show _ + (kc + 1) = _ + (T.1 + 1) by omega) hP1 hS1 hl
    have e1 : q_ E (64 + T.1) = E.2.1 + T.1 := by rw [q_hi (by omega)]; congr 1; omega
    rw [List.map_cons, show cv E (.ref (64 + T.1)) = .ref (q_ E (64 + T.1)) from rfl, e1] at h
    exact h U hU X
theorem r_newa {at_ : ArrayType} {ty : FieldType} {k n t0 : Nat} {x : Int32} (hty : newarray.typeOf at_ = ty) (hk : (ty = .int ∧ k = 13) ∨ (ty = .long ∧ k = 14) ∨ (ty = .byte ∧ k = 15)) (hw : Cond.arrayClass ty ∈ tbg) (hx : ¬ x < 0) (hn : x.toNatClampNeg = n) (hbt : n * componentBytes ty ≤ 536870912) (hf : kc + 1 ≤ R.cells ∧ ks + n ≤ R.slots) (hd : decode M.2.1 pc = .ok (.newarray at_, 2)) (kk : WW E M R Z (kc + 1) (ks + n) (nT T k n) (nI0 T I) (nJ0 T J) (nP0 T P) (pc + 2) ls (.ref (64 + T.1) :: st)) : WW E M R Z kc ks T I J P pc ls (.int x :: st) := by
  intro p e s m args below meth c H locs la C hz hH hS hl
  have hts := C.2.2.2.2.2.2.2.1
  have hK := C.2.2.2.2.2.2.2.2.2.1
  have key : ∀ (a0 : vp_A) (cA0 : ClassId) (t0 : Nat), (∀ cA : ClassId, vp_cell cA a0 = arrV cA n (fun _ => defaultValue ty)) → (KT E)[t0]? = some (cA0, ty) → (∀ cA, va_RA s cA ty → cA = cA0) → cell E (nT T k n) (nI0 T I) (nJ0 T J) (nP0 T P) (64 + T.1) = .inl (cA0, a0) → W p E.1 e R s m args below meth c H locs kc ks (Z s args below) (F0 m pc la (.int x :: st.map (cv E))) := by
    intro a0 cA0 t0 ha ht hu hcell
    refine va_newa (atype := at_) (ty := ty) C.1 C.2.1 (by rw [hty]; exact hts _ hw) hty hK hH wl_D hS (fun q hq => Nat.le_trans C.2.2.2.2.2.2.2.2.1 hq) (a0 := a0) ha hx hn hbt hf.1 hf.2 hd (fun q cA H1 hK1 hP1 hD1 hS1 U hU X => ?_)
    have hq := new_at (M := M) hU X hz hP1 hD1
    subst hq
    have hl2 : (KT E ++ [(cA, ty)])[5]? = some (cA, ty) := rfl
    have hcA := hu cA (hK1.2 5 _ hl2).2
    subst hcA
    rw [wl_push hcell] at hP1
    have h := kk p e s m args below meth c H1 locs la C (show _ + (kc + 1) = _ + (T.1 + 1) by omega) hP1 hS1 hl
    have e1 : q_ E (64 + T.1) = E.2.1 + T.1 := by rw [q_hi (by omega)]; congr 1; omega
    rw [List.map_cons, show cv E (.ref (64 + T.1)) = .ref (q_ E (64 + T.1)) from rfl, e1] at h
    exact h U hU X
  have hN : (nT T k n).2.2 (64 + T.1) = n := va_up_self _ _ _
  rcases hk with ⟨rfl, rfl⟩ | ⟨rfl, rfl⟩ | ⟨rfl, rfl⟩
  · refine key (n, .inl (fun _ => 0)) (E.2.2.2.2.1 13) 0 (fun cA => rfl) rfl (fun cA h => Option.some.inj (h.symm.trans (hK.2 0 _ rfl).2)) ?_
    rw [cell_I (va_up_self _ _ _), hN]
    simp [nI0, va_up]
  · refine key (n, .inr (.inl (fun _ => 0))) (E.2.2.2.2.1 14) 1 (fun cA => rfl) rfl (fun cA h => Option.some.inj (h.symm.trans (hK.2 1 _ rfl).2)) ?_
    rw [cell_J (va_up_self _ _ _), hN]
    simp [nJ0, va_up]
  · refine key (n, .inl (fun _ => 0)) (E.2.2.2.2.1 15) 2 (fun cA => rfl) rfl (fun cA h => Option.some.inj (h.symm.trans (hK.2 2 _ rfl).2)) ?_
    rw [cell_B (va_up_self _ _ _), hN]
    simp [nI0, va_up]
theorem r_newq {k n idx : Nat} {nm : String} {x : Int32} (hk : (k = 16 ∧ nm = RX0) ∨ (k = 17 ∧ nm = RX3)) (hcl : Cond.classLink M.1.cls idx nm ∈ tbg) (hx : ¬ x < 0) (hn : x.toNatClampNeg = n) (hbt : n * 4 ≤ 536870912) (hf : kc + 1 ≤ R.cells ∧ ks + n ≤ R.slots) (hd : decode M.2.1 pc = .ok (.anewarray idx, 3)) (kk : WW E M R Z (kc + 1) (ks + n) (nT T k n) (nI0 T I) (nJ0 T J) (nP0 T P) (pc + 3) ls (.ref (64 + T.1) :: st)) : WW E M R Z kc ks T I J P pc ls (.int x :: st) := by
  intro p e s m args below meth c H locs la C hz hH hS hl
  have hts := C.2.2.2.2.2.2.2.1
  have hST := C.2.2.2.2.2.2.2.2.2
  have hK := hST.1
  have key : ∀ (cA0 : ClassId), va_AO nm s → (∀ cA, va_RA s cA (.object nm) → cA = cA0) → cell E (nT T k n) (nI0 T I) (nJ0 T J) (nP0 T P) (64 + T.1) = .inl (cA0, n, .inr (.inr (.inr (.inr (fun _ => none))))) → W p E.1 e R s m args below meth c H locs kc ks (Z s args below) (F0 m pc la (.int x :: st.map (cv E))) := by
    intro cA0 hao hu hcell
    refine va_newq (C := nm) C.1 C.2.1 C.2.2.2.2.2.2.1 (hts _ hcl) hao hK hH wl_D hS (fun q hq => Nat.le_trans C.2.2.2.2.2.2.2.2.1 hq) hx hn hbt hf.1 hf.2 hd (fun q cA H1 hK1 hP1 hD1 hS1 U hU X => ?_)
    have hq := new_at (M := M) hU X hz hP1 hD1
    subst hq
    have hl2 : (KT E ++ [(cA, FieldType.object nm)])[5]? = some (cA, .object nm) := rfl
    have hcA := hu cA (hK1.2 5 _ hl2).2
    subst hcA
    rw [wl_push hcell] at hP1
    have h := kk p e s m args below meth c H1 locs la C (show _ + (kc + 1) = _ + (T.1 + 1) by omega) hP1 hS1 hl
    have e1 : q_ E (64 + T.1) = E.2.1 + T.1 := by rw [q_hi (by omega)]; congr 1; omega
    rw [List.map_cons, show cv E (.ref (64 + T.1)) = .ref (q_ E (64 + T.1)) from rfl, e1] at h
    exact h U hU X
  have hN : (nT T k n).2.2 (64 + T.1) = n := va_up_self _ _ _
  have huq : ∀ (i : Nat) (cA0 : ClassId), (KT E)[i]? = some (cA0, .object nm) → ∀ cA, va_RA s cA (.object nm) → cA = cA0 := by
    intro i cA0 hi cA h
    obtain ⟨_, _, _, _, _, h4⟩ := h
    obtain ⟨_, _, _, _, _, h5⟩ := (hK.2 i _ hi).2
    exact Option.some.inj (h4.symm.trans h5)
  rcases hk with ⟨rfl, rfl⟩ | ⟨rfl, rfl⟩
  · refine key (E.2.2.2.2.1 16) hST.2.2.2.2.2.2.2.2.2.1 (huq 3 _ rfl) ?_
    rw [cell_F (va_up_self _ _ _), hN]
    simp [nP0, va_up]
  · refine key (E.2.2.2.2.1 17) hST.2.2.2.2.2.2.2.2.2.2.1 (huq 4 _ rfl) ?_
    rw [cell_S (va_up_self _ _ _), hN]
    simp [nP0, va_up]
end MAKE
