/-! THE JUDGEMENT: the machine at an instruction of a method, over the memory -/
def strIx : List Nat := [112, 114, 116, 118, 120, 122, 57, 124, 126, 128, 130, 132, 134, 77, 79]
def strTx : List String := ["lift", "drag", "edge", "spin", "damp", "wind", "hand", "fall", "steady", "swinging", "turning", "righted", "winged", "wide", "clip"]
def strBy : List (List Int32) := [[108, 105, 102, 116], [100, 114, 97, 103], [101, 100, 103, 101], [115, 112, 105, 110], [100, 97, 109, 112], [119, 105, 110, 100], [104, 97, 110, 100], [102, 97, 108, 108], [115, 116, 101, 97, 100, 121], [115, 119, 105, 110, 103, 105, 110, 103], [116, 117, 114, 110, 105, 110, 103], [114, 105, 103, 104, 116, 101, 100], [119, 105, 110, 103, 101, 100], [119, 105, 100, 101], [99, 108, 105, 112]]
def strLn : List Nat := [4, 4, 4, 4, 4, 4, 4, 4, 6, 8, 7, 7, 6, 4, 4]
def sinV : List Int32 := [0, 174, 342, 500, 643, 766, 866, 940, 985, 1000]
def ncs : List (String × String) := [(RX0, RX4), (RX0, RX5), (RX0, RX8), (RX0, RX2), (RX0, RX9), (RX4, RX5), (RX4, RX8), (RX4, RX2), (RX4, RX9), (RX5, RX4), (RX5, RX8), (RX5, RX2), (RX5, RX9), (RX8, RX4), (RX8, RX5), (RX8, RX2), (RX8, RX9), (RX2, RX5), (RX2, RX8), (RX2, RX9), (RX9, RX4), (RX9, RX5), (RX9, RX2)]
def cas : List (String × String) := [(RX2, RX4), (RX9, RX8), (RX4, RX0), (RX5, RX0), (RX8, RX0), (RX2, RX0), (RX9, RX0)]
def nests : List (Nat × MethodName) := [(49, yX11_sineOf), (58, yX11_heldTo)]
/-- the words of the tables that a call may hand on -/
def tbg : List Cond := lw_tbl.filter goodWord
/-- the library's own maker of messages: there or not -/
def FM (E : GE) (U : State) (H : Heap) : Prop := va_Z "jdk/internal/util/Preconditions" "SIOOBE_FORMATTER" "Ljava/util/function/BiFunction;" .null (AA E) U H ∨ va_Z "jdk/internal/util/Preconditions" "SIOOBE_FORMATTER" "Ljava/util/function/BiFunction;" (.ref (E.2.2.1 22)) (AA E) U H
/-- what stands outside the memory: the table of sines, the texts, the script, the classes -/
def ST (E : GE) (U : State) (H : Heap) : Prop :=
  va_K E.2.2.2.1 vwCl (KT E) U ∧ va_Z "FallCards" "SINES" "[I" (.ref (E.2.2.1 20)) (AA E) U H ∧ va_T .int (E.2.2.1 20) 10 (fun j => .int (sinV.getD j 0)) (AA E) U H ∧ (va_Z "java/lang/String" "COMPACT_STRINGS" "Z" (.int 1) (AA E) U H ∧ FM E U H) ∧ vk_S 15 strLn strBy E.2.2.1 (fun i => E.2.2.1 (30 + i)) (AA E) U H ∧ (∀ i, i < 15 → vk_R "FallCards$Tape" (strIx.getD i 0) (strTx.getD i "") (E.2.2.1 i) U) ∧ (∀ q ∈ ncs, va_Nc q.1 q.2 U) ∧ va_X (E.2.2.1 21) E.2.2.2.2.2.1 E.2.2.2.2.2.2 U H ∧ E.2.2.1 21 < E.2.1 ∧ va_AO RX0 U ∧ va_AO RX3 U ∧ (∀ q ∈ cas, va_Nw (.castable q.1 q.2) U) ∧ ∀ x ∈ nests, va_Nw (.methodLinkNest RX1 x.1 x.2 RX11) U
theorem ST.to {E : GE} {s U : State} {H : Heap} (hW : s.WarmedH U.vm) {locs : List Loc} (hS : va_S (AA E) s.heap H locs) (hb : E.2.1 ≤ s.heap.size) (h : ST E s s.heap) : ST E U H := by
  obtain ⟨h1, h2, h3, h4, h5, h6, h7, h8, h9, h10, h11, h12, h13⟩ := h
  have hk : ∀ a : Nat, a < s.heap.size → ¬ AA E a → H[a]? = s.heap[a]? := fun a h1 h2 => hS.2.1 a h1 h2
  refine ⟨va_K.moved hW.alike h1, va_Z.moved hW.alike (h2.kept hk), va_T.moved hW.alike (h3.kept hk), ⟨va_Z.moved hW.alike (h4.1.kept hk), h4.2.imp (fun z => va_Z.moved hW.alike (z.kept hk)) (fun z => va_Z.moved hW.alike (z.kept hk))⟩, vk_S.moved hW.alike (h5.kept hk), fun i hi => vk_R.warm hW (h6 i hi), fun q hq => (h7 q hq).moved hW.alike, va_X.moved hW.alike (h8.kept (hk _ (by omega) (fun z => absurd h9 (Nat.not_lt.mpr z)))), h9, h10.moved hW.alike, h11.moved hW.alike, fun q hq => va_Nw.warmC hW (h12 q hq), fun x hx => va_Nw.warmM hW (h13 x hx)⟩
theorem ST.same {E : GE} {u U : State} (hv : U.vm = u.vm) {H : Heap} (h : ST E u H) : ST E U H := by
  obtain ⟨h1, h2, h3, h4, h5, h6, h7, h8, h9, h10, h11, h12, h13⟩ := h
  have ha : u.vm.Alike U.vm := by rw [hv]; exact Vm.Alike.refl u.vm
  exact ⟨va_K.moved ha h1, va_Z.moved ha h2, va_T.moved ha h3, ⟨va_Z.moved ha h4.1, h4.2.imp (va_Z.moved ha) (va_Z.moved ha)⟩, vk_S.moved ha h5, fun i hi => vk_R.same hv (h6 i hi), fun q hq => (h7 q hq).moved ha, va_X.moved ha h8, h9, h10.moved ha, h11.moved ha, fun q hq => va_Nw.same rfl hv.symm (h12 q hq), fun x hx => va_Nw.same rfl hv.symm (h13 x hx)⟩
/-- what holds through a method's body -/
def CT (E : GE) (M : MD) (p : Program) (s : State) (m : MethodId) (args : Array Value) (meth : Method) (c : Code) : Prop :=
  p.tables.exec = Jvm.exec ∧ c.code = M.2.1 ∧ c.maxLocals = M.2.2.1 ∧ meth.sig.returnType = M.2.2.2 ∧ meth.locks = false ∧ (M.1.name = "<init>" → meth.name = "<init>") ∧ s.vm.findClass M.1.cls = some m.cls ∧ (∀ w ∈ tbg, w.before args s = true) ∧ E.2.1 ≤ s.heap.size ∧ ST E s s.heap
def WW (E : GE) (M : MD) (R : Room) (Z : State → Array Value → List Frame → State → Prop) (kc ks : Nat) (T : TM) (I : IM) (J : JM) (P : PM) (pc : Nat) (ls : List (Nat × Value)) (st : List Value) : Prop :=
  ∀ (p : Program) (e : Env) (s : State) (m : MethodId) (args : Array Value) (below : List Frame) (meth : Method) (c : Code) (H : Heap) (locs : List Loc) (la : Array Slot), CT E M p s m args meth c → s.heap.size + kc = E.2.1 + T.1 → HP E T I J P H → va_S (AA E) s.heap H locs → lv_has la M.2.2.1 (ls.map (cv2 E)) → W p E.1 e R s m args below meth c H locs kc ks (Z s args below) (F0 m pc la (st.map (cv E)))
/-- a contract's end: the answer and the memory -/
def QM (E : GE) (v : Option Value) (T : TM) (I : IM) (J : JM) (P : PM) : Array Value → State → Outcome → State → Prop := fun _ st oc t => oc = .returned (v.map (cv E)) ∧ HP E T I J P t.heap ∧ va_F (AA E) st t
def RM (d bc bs : Nat) : Room := { frames := d, cells := bc, slots := bs, locals := 37 * d }
def wsM (M : MD) : List Cond := .code M.1 M.2.1 M.2.2.1 M.2.2.2 :: tbg
def Ctr (E : GE) (M : MD) (d bc bs : Nat) (as : List Value) (T : TM) (I : IM) (J : JM) (P : PM) (v : Option Value) (T' : TM) (I' : IM) (J' : JM) (P' : PM) : Prop :=
  T'.1 = T.1 + bc ∧ Met E.1 M.1 (wsM M) (RM d bc bs) (va_Pc (as.map (cv E)) (fun U => U.heap.size = E.2.1 + T.1 ∧ ST E U U.heap ∧ HP E T I J P U.heap)) (QM E v T' I' J' P') bc bs (AA E)
def ZM (E : GE) (bc bs : Nat) (v : Option Value) (T : TM) (I : IM) (J : JM) (P : PM) : State → Array Value → List Frame → State → Prop := fun s args below => MQ below (QM E v T I J P) args s bc bs (AA E)
theorem lv_args_cv (E : GE) : ∀ (as : List Value) (n : Nat), lv_args n (as.map (cv E)) = (lv_args n as).map (cv2 E) := by
  intro as
  induction as with
  | nil => intro n; rfl
  | cons v vs ih => intro n; simp only [List.map_cons, lv_args, ih, cv_cat, cv2]
theorem lg_sl_cv (E : GE) : ∀ (as : List Value), (lg_sl (as.map (cv E))).length = (lg_sl as).length := by
  intro as
  induction as with
  | nil => rfl
  | cons v vs ih =>
    have h1 : lg_sl ((v :: vs).map (cv E)) = (if (cv E v).category = 2 then [Slot.val (cv E v), Slot.second] else [Slot.val (cv E v)]) ++ lg_sl (vs.map (cv E)) := rfl
    have h2 : lg_sl (v :: vs) = (if v.category = 2 then [Slot.val v, Slot.second] else [Slot.val v]) ++ lg_sl vs := rfl
    rw [h1, h2, List.length_append, List.length_append, ih, cv_cat]
    by_cases hc : v.category = 2
    · rw [if_pos hc, if_pos hc]; rfl
    · rw [if_neg hc, if_neg hc]; rfl
theorem ctr_intro {E : GE} {M : MD} {d bc bs : Nat} {as : List Value} {T : TM} {I : IM} {J : JM} {P : PM} {v : Option Value} {T' : TM} {I' : IM} {J' : JM} {P' : PM} (hT : T'.1 = T.1 + bc) (hy : plainName M.1.cls = true) (hl : (lg_sl as).length ≤ M.2.2.1)
    (h : WW E M (RM d bc bs) (ZM E bc bs v T' I' J' P') 0 0 T I J P 0 (lv_args 0 as) []) : Ctr E M d bc bs as T I J P v T' I' J' P' := by
  refine ⟨hT, Met.ofW (cc := M.2.1) (maxL := M.2.2.1) (ret := M.2.2.2) hy rfl ?_⟩
  intro p e s m args below meth c s₁ B hml hv
  obtain ⟨rfl, hz, hST, hP⟩ := hv
  have hb : E.2.1 ≤ s.heap.size := by omega
  have hts := atoms_spec (ws := wsM M) B.pre
  rw [lg_entry_eq]
  exact h p e s m _ below meth c s.heap [] _ ⟨B.exec, B.bytes, hml, B.returns, B.notSynchronized, (fun h => (name_of_methodNamed B.named B.method).1.trans h), findClass_of_methodNamed B.named, fun w hw => hts w (List.mem_cons_of_mem _ hw), hb, hST⟩ hz hP va_S.rf (by rw [← lv_args_cv]; exact lv_entry _ (by rw [lg_sl_cv]; exact hl))
/-- how large the heap is now -/
theorem size_of {E : GE} {M : MD} {p : Program} {l : Launch} {e : Env} {R : Room} {s : State} {m : MethodId} {args : Array Value} {below : List Frame} {meth : Method} {c : Code} {U : State} {H : Heap} {locs : List Loc} {kc ks : Nat} {T : TM} {I : IM} {J : JM} {P : PM} (C : CT E M p s m args meth c) (hU : U.heap = H) (X : Stand p l e R s m args below meth c U locs kc ks) (hz : s.heap.size + kc = E.2.1 + T.1) (hH : HP E T I J P H) (hS : va_S (AA E) s.heap H locs) : H.size = E.2.1 + T.1 := by
  have h1 : H.size ≤ s.heap.size + kc := by rw [← hU]; exact X.heapSize
  have h2 : E.2.1 + T.1 ≤ H.size := by
    by_cases h0 : T.1 = 0
    · have := hS.1
      have := C.2.2.2.2.2.2.2.2.1
      omega
    · have := (hH (T.1 - 1) _ (wl_get (by omega))).lt
      simp only at this
      omega
  omega
