/-! instanceof, super.m(..), the texts -/
def isInst (k nm : Nat) : Int32 := if k = nm then 1 else if (k = 2 ∧ nm = 4) ∨ (k = 9 ∧ nm = 8) then 1 else 0
theorem va_callSUp {p : Program} {l : Launch} {e : Env} {R : Room} {s : State} {m : MethodId} {args : Array Value} {below : List Frame} {meth : Method} {c : Code} {T : State} {locs : List Loc} {cells slots : Nat} (X : Stand p l e R s m args below meth c T locs cells slots) (hexec : p.tables.exec = Jvm.exec) {own owner : String} {index : Nat} {x : MethodName} {bytes : ByteArray} {maxL : Nat} {ret : Option FieldType}
    (hown : s.vm.findClass own = some m.cls) (hlink : (Cond.methodLink own index x).before args s = true) (hsame : (Cond.sameMethod x.cls owner x.name x.desc).before args s = true) (hsup : (Cond.superclass own x.cls).before args s = true) (hup : x.cls = owner ∨ (Cond.superclass x.cls owner).before args s = true)
    (hinst : (Cond.instanceMethod ⟨owner, x.name, x.desc⟩).before args s = true) (hcode : (Cond.code ⟨owner, x.name, x.desc⟩ bytes maxL ret).before args s = true) (hno : x.name ≠ "<init>")
    {W : Nat} {Pre : Pt → Array Value → Prop} {Post : Pt → Array Value → Option Value → Pt → Prop} (hK : Back l R p e below s args ⟨owner, x.name, x.desc⟩ 3 W Pre Post)
    {b : Addr} {cellB : Cell} {kB : Class} (hcell : T.heap[b]? = some cellB) (hobj : cellB.vm.isStatics = false) (hkB : s.vm.classes[cellB.cls]? = some kB)
    {g : JFrame} (hg : g.method = m) (hsize : g.locals.size = c.maxLocals) {argsL rest : List Value} (hlen : ∀ sig, parseMethodDescriptor x.desc = some sig → argsL.length = sig.parameters.length)
    (hstack : g.stack = argsL.reverse ++ .ref b :: rest) (hW : 2 * g.monitorRoom + (rest.map fun v => v.category).sum ≤ W) (hdg : decode c.code g.pc = .ok (.invokespecial index, 3))
    (hpre : ∀ vm₁, s.WarmedH vm₁ → Pre ⟨T.setVm vm₁, locs, cells, slots⟩ (Value.ref b :: argsL).toArray) :
    ∃ (v : Option Value) (vm₁ : Vm) (B : Pt), s.WarmedH vm₁ ∧ Stand p l e R s m args below meth c B.U B.locs B.cells B.slots ∧ Post ⟨T.setVm vm₁, locs, cells, slots⟩ (Value.ref b :: argsL).toArray v B ∧
      ∀ target, Steps p.tables e below (B.U.setTop { g with pc := g.pc + 3, stack := v.toList ++ rest }) target → Steps p.tables e below (T.setTop g) target := by
  obtain ⟨mk, methM, hnamed, hmethM, hstM, habM⟩ := Cond.instanceMethod_spec hinst
  obtain ⟨methM', cM, hmethM', -, -, -, -, -, -, hsigM⟩ := Cond.code_spec hnamed hcode
  cases hmethM.symm.trans hmethM'
  obtain ⟨ps, dk, kp, hps, hdk, hkp, hsuper, -, -, hnid⟩ := Cond.superclass_spec hown hsup
  have hmk : s.vm.findClass owner = some mk.cls := findClass_of_methodNamed hnamed
  have hsub : s.vm.isSubclass ps mk.cls = true := by
    rcases hup with hup | hup
    · rw [hup] at hps
      cases hps.symm.trans hmk
      simp [Vm.isSubclass, Vm.isSubclassAux]
    · obtain ⟨ps2, dk2, kp2, hps2, hdk2, hkp2, hsuper2, -, -, -⟩ := Cond.superclass_spec hps hup
      cases hps2.symm.trans hmk
      have hpos : 0 < s.vm.classes.size := Nat.lt_of_le_of_lt (Nat.zero_le _) (Array.getElem?_eq_some_iff.mp hkp2).1
      simp [Vm.isSubclass, Vm.isSubclassAux, hdk2, hsuper2]
      right
      obtain ⟨n, hn⟩ := Nat.exists_eq_succ_of_ne_zero (Nat.ne_of_gt hpos)
      rw [hn]
      simp [Vm.isSubclassAux]
  obtain ⟨vm₁, X₁, hstep₁⟩ := X.invokespecialUp hexec hown hlink hsame hnamed hmethM hstM habM hno hdk hnid hps hsuper hsub (a := b) (cell := cellB) hcell
    (fun z h => by rw [h] at hobj; cases hobj) hkB (g := g) hg (argsL := argsL) (rest := rest) (hlen _ hsigM) hstack hdg
  obtain ⟨v, B, X', hpost, hsteps⟩ := hK m meth c ⟨T.setVm vm₁, locs, cells, slots⟩ { g with stack := rest } (.invokespecial index) mk (Value.ref b :: argsL).toArray X₁ hg hsize hdg hW (X₁.named hnamed) (hpre vm₁ X₁.warmed)
  exact ⟨v, vm₁, B, X₁.warmed, X', hpost, fun target h => hstep₁ _ (by rw [doInvoke_state]; exact hsteps.trans h)⟩
section REST8
variable {E : GE} {M : MD} {R : Room} {Z : State → Array Value → List Frame → State → Prop} {kc ks : Nat} {T T' : TM} {I I' : IM} {J J' : JM} {P P' : PM} {pc : Nat} {ls : List (Nat × Value)} {st stk As : List Value} {v : Option Value} {M' : MD} {n idx d' bc' bs' b ci : Nat}
theorem r_inst {ni : Nat} {r : vw_C} (hni : ni = 2 ∨ ni = 4 ∨ ni = 5 ∨ ni = 8 ∨ ni = 9) (hr : vwCl[ni]? = some r) (hln : Cond.classLink M.1.cls idx r.1 ∈ tbg) (hF : isF T b = true) (hd : decode M.2.1 pc = .ok (.instanceof idx, 3)) (kk : WW E M R Z kc ks T I J P (pc + 3) ls (.int (isInst (T.2.1 b) ni) :: st)) : WW E M R Z kc ks T I J P pc ls (.ref b :: st) := by
  intro p e s m args below meth c H locs la C hz hH hS hl
  have K := kk p e s m args below meth c H locs la C hz hH hS hl
  have hts := C.2.2.2.2.2.2.2.1
  have hST := C.2.2.2.2.2.2.2.2.2
  obtain ⟨ci, hc, h⟩ := isF_of hF
  rw [h.2.2] at K
  have hcas := hST.2.2.2.2.2.2.2.2.2.2.2.1
  have hncs := hST.2.2.2.2.2.2.1
  have rcv : ∀ q : vw_C, vwCl[ci]? = some q → ci < 13 → ∃ cell : Cell, H[q_ E b]? = some cell ∧ cell.vm.isStatics = false ∧ s.vm.findClass q.1 = some cell.cls := fun q hq hci => va_recv hST.1 hH hq ((wl_at h).trans (by rw [cell_obj h.2.2 hci]))
  have yes : ∀ q : vw_C, vwCl[ci]? = some q → ci < 13 → (q.1, r.1) ∈ cas → isInst ci ni = 1 → W p E.1 e R s m args below meth c H locs kc ks (Z s args below) (F0 m pc la (.ref (q_ E b) :: st.map (cv E))) := fun q hq hci hm h1 => va_instY C.1 C.2.1 C.2.2.2.2.2.2.1 (hts _ hln) (hcas _ hm) (rcv q hq hci) hd (by rw [h1] at K; exact K)
  have no : ∀ q : vw_C, vwCl[ci]? = some q → ci < 13 → (q.1, r.1) ∈ ncs → isInst ci ni = 0 → W p E.1 e R s m args below meth c H locs kc ks (Z s args below) (F0 m pc la (.ref (q_ E b) :: st.map (cv E))) := fun q hq hci hm h1 => va_instNo C.1 C.2.1 C.2.2.2.2.2.2.1 (hts _ hln) (hncs _ hm) (rcv q hq hci) hd (by rw [h1] at K; exact K)
  have same : ci = ni → W p E.1 e R s m args below meth c H locs kc ks (Z s args below) (F0 m pc la (.ref (q_ E b) :: st.map (cv E))) := fun e1 => by
    subst e1
    have h1 : isInst ci ci = 1 := by simp [isInst]
    exact va_instS C.1 C.2.1 C.2.2.2.2.2.2.1 (hts _ hln) (hST.1.1 ci r hr).2 (rcv r hr (by rcases hni with rfl | rfl | rfl | rfl | rfl <;> decide)) hd (by rw [h1] at K; exact K)
  simp only [fks, List.mem_cons, List.not_mem_nil, or_false] at hc
  rcases hni with rfl | rfl | rfl | rfl | rfl <;> cases hr <;> rcases hc with rfl | rfl | rfl | rfl | rfl | rfl
  all_goals first
    | exact same rfl
    | exact no _ rfl (by decide) (by simp [ncs]) (by decide)
    | exact yes _ rfl (by decide) (by simp [cas]) (by decide)
/-- super.m(..) -/
theorem r_super {r : vw_C} {x : MethodName} {owner : String} (hm : MI M' n) (hM' : M'.1 = ⟨owner, x.name, x.desc⟩) (hln : Cond.methodLink M.1.cls idx x ∈ tbg) (hsm : Cond.sameMethod x.cls owner x.name x.desc ∈ tbg) (hsp : Cond.superclass M.1.cls x.cls ∈ tbg) (hup : x.cls = owner ∨ Cond.superclass x.cls owner ∈ tbg) (hin : Cond.instanceMethod M'.1 ∈ tbg) (hno : x.name ≠ "<init>") (hr : vwCl[ci]? = some r) (hci : ci < 13) (hI : IS T b ci) (hc : Ctr E M' d' bc' bs' (.ref b :: As) T I J P v T' I' J' P') (hn : As.length = n) (hstk : stk = As.reverse ++ .ref b :: st) (hcat : (st.map fun v => v.category).sum ≤ 8) (hR : d' + 1 ≤ R.frames ∧ 8 + (M'.2.2.1 + 11) + 37 * d' ≤ R.locals) (hf : kc + bc' ≤ R.cells ∧ ks + bs' ≤ R.slots) (hd : decode M.2.1 pc = .ok (.invokespecial idx, 3))
    (kk : WW E M R Z (kc + bc') (ks + bs') T' I' J' P' (pc + 3) ls (v.toList ++ st)) : WW E M R Z kc ks T I J P pc ls stk := by
  intro p e s m args below meth c H locs la C hz hH hS hl U hU X
  have hsz := size_of C hU X hz hH hS
  have hts := C.2.2.2.2.2.2.2.1
  subst hstk
  obtain ⟨cellB, g1, g2, g3⟩ := va_recv C.2.2.2.2.2.2.2.2.2.1 hH hr ((wl_at hI).trans (by rw [cell_obj hI.2.2 hci]))
  obtain ⟨kB, hkB, -⟩ := Vm.findClass_spec g3
  have hcw : CallB R s args M.1.cls idx M'.1 M'.2.1 M'.2.2.1 M'.2.2.2 (wsM M') (RM d' bc' bs') bc' bs' n ∨ True := Or.inr trivial
  have hcode : (Cond.code M'.1 M'.2.1 M'.2.2.1 M'.2.2.2).before args s = true := hts _ hm.1
  have hBk : Back E.1 R p e below s args M'.1 3 8 (PreOf R bc' bs' (va_Pc ((Value.ref b :: As).map (cv E)) (fun U => U.heap.size = E.2.1 + T.1 ∧ ST E U U.heap ∧ HP E T I J P U.heap))) (PostOf (QM E v T' I' J' P') bc' bs' (AA E)) :=
    back_of (bytes := M'.2.1) (maxL := M'.2.2.1) (ret := M'.2.2.2) hc.2 pre_blind rfl rfl hR.1 hR.2 (pay_in hts hm.good) (List.mem_cons_self) (fun a' U hW => word_at hW (Or.inl (by first | rfl | simp [Cond.onTables, Cond.keeps, Cond.steady])) (hts _ hm.2.1))
  rw [hM'] at hBk hcode
  have hrun : va_Run p E.1 e R s m args below meth c H locs kc ks bc' bs' (F0 m pc la ((As.reverse ++ .ref b :: st).map (cv E))) (st.map (cv E)) (QM E v T' I' J' P' ((Value.ref b :: As).map (cv E)).toArray) (AA E) := by
    intro U hU X
    have hl0 : (As.map (cv E)).length = n := by rw [List.length_map]; exact hn
    obtain ⟨v', vm₁, ⟨U', l2, c2, s2⟩, hW₁, X', ⟨g', mk, t, L, e1, e2, hq, h1, hL, h2, h3⟩, stp⟩ := va_callSUp X C.1 (bytes := M'.2.1) (maxL := M'.2.2.1) (ret := M'.2.2.2) C.2.2.2.2.2.2.1 (hts _ hln) (hts _ hsm) (hts _ hsp) (hup.imp_right (fun h => hts _ h)) (by rw [← hM']; exact hts _ hin) hcode hno hBk (b := q_ E b) (by rw [hU]; exact g1) g2 hkB (g := F0 m pc la ((As.reverse ++ .ref b :: st).map (cv E))) rfl (by rw [C.2.2.1]; exact hl.1) (argsL := As.map (cv E)) (rest := st.map (cv E)) (fun sig h => by
        have h4 := hm.2.2.2.2
        rw [hM'] at h4
        rw [h] at h4
        exact hl0.trans (Option.some.inj h4).symm) stk_cv1 (lv_room (by rw [cat_cv]; exact hcat)) (by rw [C.2.1]; exact hd)
      (fun vm₁ hW₁ => ⟨hf.1, hf.2, pre_at (as := .ref b :: As) C hsz hH hS (U.setVm vm₁) hU hW₁⟩)
    dsimp only [Pt.U, Pt.locs, Pt.cells, Pt.slots] at X' e1 e2 h1 h2 h3 stp
    subst h1; subst h2; subst h3
    exact ⟨v', (U.setVm vm₁).calling g' mk ((Value.ref b :: As).map (cv E)).toArray, t, U', L, hU, X', hL, e1, e2, hq, stp⟩
  exact callW (st := st) hrun C hz hc.1 hS hl kk U hU X
end REST8
