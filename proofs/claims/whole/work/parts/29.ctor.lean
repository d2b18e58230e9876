/-! THE CONSTRUCTORS -/
def Mono (T T' : TM) : Prop := ∀ b k, IS T b k → IS T' b k
theorem Mono.rf {T : TM} : Mono T T := fun _ _ h => h
theorem Mono.new {T T1 : TM} {k n : Nat} (h : Mono T T1) : Mono T (nT T1 k n) := fun _ _ z => (h _ _ z).new
theorem Mono.tr {T T1 T2 : TM} (h : Mono T T1) (h2 : Mono T1 T2) : Mono T T2 := fun _ _ z => h2 _ _ (h _ _ z)
def isKb (T : TM) (a k : Nat) : Bool := decide (64 ≤ a) && (decide (a < 64 + T.1) && decide (T.2.1 a = k))
theorem isKb_of {T : TM} {a k : Nat} (h : isKb T a k = true) : IS T a k := by
  simp only [isKb, Bool.and_eq_true, decide_eq_true_eq] at h
  exact ⟨h.1, h.2.1, h.2.2⟩
theorem r_newn {E : GE} {M : MD} {R : Room} {Z : State → Array Value → List Frame → State → Prop} {kc ks : Nat} {T : TM} {I : IM} {J : JM} {P : PM} {pc : Nat} {ls : List (Nat × Value)} {st : List Value} {idx ci n : Nat} {nm : String} (hci : CI ci) (hn : (lay ci).length = n) (hnm : (vwCl[ci]?).map (fun r => r.1) = some nm) (hcl : Cond.classLink M.1.cls idx nm ∈ tbg) (hf : kc + 1 ≤ R.cells ∧ ks + n ≤ R.slots) (hd : decode M.2.1 pc = .ok (.new idx, 3)) (kk : WW E M R Z (kc + 1) (ks + n) (nT T ci 0) (nI0 T I) (nJ0 T J) (nP0 T P) (pc + 3) ls (.ref (64 + T.1) :: st)) : WW E M R Z kc ks T I J P pc ls st := by
  subst hn
  exact r_new hci hnm hcl hf hd kk

set_option maxRecDepth 100000 in
def F_X1_init (T : TM) (I : IM) (J : JM) (P : PM) (a : Nat) : Option (TM × IM × JM × PM) := (some (T, I, J, P))
set_option maxRecDepth 100000 in
set_option maxHeartbeats 4000000 in
theorem ok_X1_init {E : GE} {T : TM} {I : IM} {J : JM} {P : PM} {a : Nat} {x : TM × IM × JM × PM} (ha : IS T a 1) (hF : F_X1_init T I J P a = some x) : CtrP E (Mono T x.1) mX1_init 1 0 0 [.ref a] T I J P none x.1 x.2.1 x.2.2.1 x.2.2.2 := by
  unfold F_X1_init at hF
  refine ctrP_intro (by decide) (Nat.le_of_ble_eq_true rfl) ?_
  refine r_sub (ls' := [(0, .ref a)]) [0] rfl ?_
  refine r_aload_n dX1_init_0 rfl rfl ?_
  refine r_objInit kw_41 ⟨Nat.le_of_ble_eq_true rfl, Nat.le_of_ble_eq_true rfl⟩ kw_26 kw_27 dX1_init_1 ?_
  obtain rfl := Option.some.inj hF
  exact p_return rfl dX1_init_4 Mono.rf (by omega) (by omega)
set_option maxRecDepth 100000 in
def F_X3_init (T : TM) (I : IM) (J : JM) (P : PM) (a : Nat) : Option (TM × IM × JM × PM) := (letb (up2 I a 0 (-1)) (fun I1 : IM => (letb (nT T 14 40) (fun T2 : TM => (letb (nI0 T I1) (fun I3 : IM => (letb (nJ0 T J) (fun J4 : JM => (letb (nP0 T P) (fun P5 : PM => (letb (up2 P5 a 2 (some (64 + T.1))) (fun P9 : PM => (some (T2, I3, J4, P9))))))))))))))
set_option maxRecDepth 100000 in
set_option maxHeartbeats 4000000 in
theorem ok_X3_init {E : GE} {T : TM} {I : IM} {J : JM} {P : PM} {a : Nat} {x : TM × IM × JM × PM} (ha : IS T a 3) (hF : F_X3_init T I J P a = some x) : CtrP E (Mono T x.1) mX3_init 1 1 40 [.ref a] T I J P none x.1 x.2.1 x.2.2.1 x.2.2.2 := by
  unfold F_X3_init at hF
  refine ctrP_intro (by decide) (Nat.le_of_ble_eq_true rfl) ?_
  refine r_sub (ls' := [(0, .ref a)]) [0] rfl ?_
  refine r_aload_n dX3_init_0 rfl rfl ?_
  refine r_objInit kw_170 ⟨Nat.le_of_ble_eq_true rfl, Nat.le_of_ble_eq_true rfl⟩ kw_26 kw_27 dX3_init_1 ?_
  refine r_aload_n dX3_init_4 rfl rfl ?_
  refine r_iconst (v := (-1)) dX3_init_5 (by decide) ?_
  refine r_putI lk_X3_9 (Or.inl rfl) (Mono.rf _ _ ha) rfl rfl dX3_init_6 ?_
  refine r_letI hF (fun I1 hF => ?_)
  refine r_aload_n dX3_init_9 rfl rfl ?_
  refine r_bipush (v := 40) dX3_init_10 (by decide) ?_
  refine r_newa (t0 := 0) (at_ := .long) (ty := .long) (k := 14) (n := 40) rfl (Or.inr (Or.inl ⟨rfl, rfl⟩)) kw_184 (by decide) (by decide) (by decide) ⟨by show _ ≤ 1; omega, by show _ ≤ 40; omega⟩ dX3_init_12 ?_
  refine r_letT hF (fun T2 eT2 hF => ?_)
  refine r_letI hF (fun I3 hF => ?_)
  refine r_letJ hF (fun J4 hF => ?_)
  refine r_letP hF (fun P5 eP5 hF => ?_)
  have m6 : Mono T T2 := by rw [eT2]; exact (Mono.rf).new
  have i7 : IS T2 (64 + T.1) 14 := by rw [eT2]; exact IS.fresh
  have l8 : T2.2.2 (64 + T.1) = 40 := by rw [eT2]; exact va_up_self _ _ _
  refine r_putP lk_X3_15 (Or.inr ⟨rfl, rfl⟩) (m6 _ _ ha) (fun _ => rfl) (fun _ => rfl) dX3_init_14 ?_
  refine r_letP hF (fun P9 eP9 hF => ?_)
  obtain rfl := Option.some.inj hF
  exact p_return rfl dX3_init_17 m6 (by omega) (by omega)
set_option maxRecDepth 100000 in
def F_X6_init (T : TM) (I : IM) (J : JM) (P : PM) (a : Nat) : Option (TM × IM × JM × PM) := (letb (nT T 15 200) (fun T1 : TM => (letb (nI0 T I) (fun I2 : IM => (letb (nJ0 T J) (fun J3 : JM => (letb (nP0 T P) (fun P4 : PM => (letb (up2 P4 a 0 (some (64 + T.1))) (fun P8 : PM => (some (T1, I2, J3, P8))))))))))))
set_option maxRecDepth 100000 in
set_option maxHeartbeats 4000000 in
theorem ok_X6_init {E : GE} {T : TM} {I : IM} {J : JM} {P : PM} {a : Nat} {x : TM × IM × JM × PM} (ha : IS T a 6) (hF : F_X6_init T I J P a = some x) : CtrP E (Mono T x.1) mX6_init 1 1 200 [.ref a] T I J P none x.1 x.2.1 x.2.2.1 x.2.2.2 := by
  unfold F_X6_init at hF
  refine ctrP_intro (by decide) (Nat.le_of_ble_eq_true rfl) ?_
  refine r_sub (ls' := [(0, .ref a)]) [0] rfl ?_
  refine r_aload_n dX6_init_0 rfl rfl ?_
  refine r_objInit kw_126 ⟨Nat.le_of_ble_eq_true rfl, Nat.le_of_ble_eq_true rfl⟩ kw_26 kw_27 dX6_init_1 ?_
  refine r_aload_n dX6_init_4 rfl rfl ?_
  refine r_sipush (v := 200) dX6_init_5 (by decide) ?_
  refine r_newa (t0 := 0) (at_ := .byte) (ty := .byte) (k := 15) (n := 200) rfl (Or.inr (Or.inr ⟨rfl, rfl⟩)) kw_141 (by decide) (by decide) (by decide) ⟨by show _ ≤ 1; omega, by show _ ≤ 200; omega⟩ dX6_init_8 ?_
  refine r_letT hF (fun T1 eT1 hF => ?_)
  refine r_letI hF (fun I2 hF => ?_)
  refine r_letJ hF (fun J3 hF => ?_)
  refine r_letP hF (fun P4 eP4 hF => ?_)
  have m5 : Mono T T1 := by rw [eT1]; exact (Mono.rf).new
  have i6 : IS T1 (64 + T.1) 15 := by rw [eT1]; exact IS.fresh
  have l7 : T1.2.2 (64 + T.1) = 200 := by rw [eT1]; exact va_up_self _ _ _
  refine r_putP lk_X6_9 (Or.inr ⟨rfl, rfl⟩) (m5 _ _ ha) (fun _ => rfl) (fun _ => rfl) dX6_init_10 ?_
  refine r_letP hF (fun P8 eP8 hF => ?_)
  obtain rfl := Option.some.inj hF
  exact p_return rfl dX6_init_13 m5 (by omega) (by omega)
set_option maxRecDepth 100000 in
def F_X7_init (T : TM) (I : IM) (J : JM) (P : PM) (a : Nat) : Option (TM × IM × JM × PM) := (letb (nT T 13 30) (fun T1 : TM => (letb (nI0 T I) (fun I2 : IM => (letb (nJ0 T J) (fun J3 : JM => (letb (nP0 T P) (fun P4 : PM => (letb (up2 P4 a 0 (some (64 + T.1))) (fun P8 : PM => (some (T1, I2, J3, P8))))))))))))
set_option maxRecDepth 100000 in
set_option maxHeartbeats 4000000 in
theorem ok_X7_init {E : GE} {T : TM} {I : IM} {J : JM} {P : PM} {a : Nat} {x : TM × IM × JM × PM} (ha : IS T a 7) (hF : F_X7_init T I J P a = some x) : CtrP E (Mono T x.1) mX7_init 1 1 30 [.ref a] T I J P none x.1 x.2.1 x.2.2.1 x.2.2.2 := by
  unfold F_X7_init at hF
  refine ctrP_intro (by decide) (Nat.le_of_ble_eq_true rfl) ?_
  refine r_sub (ls' := [(0, .ref a)]) [0] rfl ?_
  refine r_aload_n dX7_init_0 rfl rfl ?_
  refine r_objInit kw_147 ⟨Nat.le_of_ble_eq_true rfl, Nat.le_of_ble_eq_true rfl⟩ kw_26 kw_27 dX7_init_1 ?_
  refine r_aload_n dX7_init_4 rfl rfl ?_
  refine r_bipush (v := 30) dX7_init_5 (by decide) ?_
  refine r_newa (t0 := 0) (at_ := .int) (ty := .int) (k := 13) (n := 30) rfl (Or.inl ⟨rfl, rfl⟩) kw_93 (by decide) (by decide) (by decide) ⟨by show _ ≤ 1; omega, by show _ ≤ 30; omega⟩ dX7_init_7 ?_
  refine r_letT hF (fun T1 eT1 hF => ?_)
  refine r_letI hF (fun I2 hF => ?_)
  refine r_letJ hF (fun J3 hF => ?_)
  refine r_letP hF (fun P4 eP4 hF => ?_)
  have m5 : Mono T T1 := by rw [eT1]; exact (Mono.rf).new
  have i6 : IS T1 (64 + T.1) 13 := by rw [eT1]; exact IS.fresh
  have l7 : T1.2.2 (64 + T.1) = 30 := by rw [eT1]; exact va_up_self _ _ _
  refine r_putP lk_X7_9 (Or.inr ⟨rfl, rfl⟩) (m5 _ _ ha) (fun _ => rfl) (fun _ => rfl) dX7_init_9 ?_
  refine r_letP hF (fun P8 eP8 hF => ?_)
  obtain rfl := Option.some.inj hF
  exact p_return rfl dX7_init_12 m5 (by omega) (by omega)
set_option maxRecDepth 100000 in
def F_X10_init (T : TM) (I : IM) (J : JM) (P : PM) (a : Nat) : Option (TM × IM × JM × PM) := (letb (nT T 16 6) (fun T1 : TM => (letb (nI0 T I) (fun I2 : IM => (letb (nJ0 T J) (fun J3 : JM => (letb (nP0 T P) (fun P4 : PM => (letb (up2 P4 a 0 (some (64 + T.1))) (fun P8 : PM => (letb (nT T1 13 6) (fun T9 : TM => (letb (nI0 T1 I2) (fun I10 : IM => (letb (nJ0 T1 J3) (fun J11 : JM => (letb (nP0 T1 P8) (fun P12 : PM => (letb (up2 I10 (64 + T1.1) 0 16) (fun I16 : IM => (letb (up2 I16 (64 + T1.1) 1 8) (fun I17 : IM => (letb (up2 I17 (64 + T1.1) 2 24) (fun I18 : IM => (letb (up2 I18 (64 + T1.1) 3 20) (fun I19 : IM => (letb (up2 I19 (64 + T1.1) 4 12) (fun I20 : IM => (letb (up2 I20 (64 + T1.1) 5 32) (fun I21 : IM => (letb (up2 P12 a 2 (some (64 + T1.1))) (fun P22 : PM => (letb (nT T9 13 5) (fun T23 : TM => (letb (nI0 T9 I21) (fun I24 : IM => (letb (nJ0 T9 J11) (fun J25 : JM => (letb (nP0 T9 P22) (fun P26 : PM => (letb (up2 I24 (64 + T9.1) 0 0) (fun I30 : IM => (letb (up2 I30 (64 + T9.1) 1 0) (fun I31 : IM => (letb (up2 I31 (64 + T9.1) 2 1) (fun I32 : IM => (letb (up2 I32 (64 + T9.1) 3 0) (fun I33 : IM => (letb (up2 I33 (64 + T9.1) 4 0) (fun I34 : IM => (letb (up2 P26 a 3 (some (64 + T9.1))) (fun P35 : PM => (letb (nT T23 1 0) (fun T36 : TM => (letb (nI0 T23 I34) (fun I37 : IM => (letb (nJ0 T23 J25) (fun J38 : JM => (letb (nP0 T23 P35) (fun P39 : PM => ((F_X1_init T36 I37 J38 P39 (64 + T23.1)).bind (fun x43 => (letb (up2 x43.2.2.2 a 4 (some (64 + T23.1))) (fun P46 : PM => (letb (up2 x43.2.1 a 5 1) (fun I47 : IM => (some (x43.1, I47, x43.2.2.1, P46))))))))))))))))))))))))))))))))))))))))))))))))))))))))))))))))))))
set_option maxRecDepth 100000 in
set_option maxHeartbeats 4000000 in
theorem ok_X10_init {E : GE} {T : TM} {I : IM} {J : JM} {P : PM} {a : Nat} {x : TM × IM × JM × PM} (ha : IS T a 10) (hF : F_X10_init T I J P a = some x) : CtrP E (Mono T x.1) mX10_init 2 4 28 [.ref a] T I J P none x.1 x.2.1 x.2.2.1 x.2.2.2 := by
  unfold F_X10_init at hF
  refine ctrP_intro (by decide) (Nat.le_of_ble_eq_true rfl) ?_
  refine r_sub (ls' := [(0, .ref a)]) [0] rfl ?_
  refine r_aload_n dX10_init_0 rfl rfl ?_
  refine r_objInit kw_33 ⟨Nat.le_of_ble_eq_true rfl, Nat.le_of_ble_eq_true rfl⟩ kw_26 kw_27 dX10_init_1 ?_
  refine r_aload_n dX10_init_4 rfl rfl ?_
  refine r_bipush (v := 6) dX10_init_5 (by decide) ?_
  refine r_newq (k := 16) (n := 6) (Or.inl ⟨rfl, rfl⟩) kw_34 (by decide) (by decide) (by decide) ⟨by show _ ≤ 4; omega, by show _ ≤ 28; omega⟩ dX10_init_7 ?_
  refine r_letT hF (fun T1 eT1 hF => ?_)
  refine r_letI hF (fun I2 hF => ?_)
  refine r_letJ hF (fun J3 hF => ?_)
  refine r_letP hF (fun P4 eP4 hF => ?_)
  have m5 : Mono T T1 := by rw [eT1]; exact (Mono.rf).new
  have i6 : IS T1 (64 + T.1) 16 := by rw [eT1]; exact IS.fresh
  have l7 : T1.2.2 (64 + T.1) = 6 := by rw [eT1]; exact va_up_self _ _ _
  refine r_putP lk_X10_11 (Or.inr ⟨rfl, rfl⟩) (m5 _ _ ha) (fun _ => rfl) (fun _ => rfl) dX10_init_10 ?_
  refine r_letP hF (fun P8 eP8 hF => ?_)
  refine r_aload_n dX10_init_13 rfl rfl ?_
  refine r_bipush (v := 6) dX10_init_14 (by decide) ?_
  refine r_newa (t0 := 0) (at_ := .int) (ty := .int) (k := 13) (n := 6) rfl (Or.inl ⟨rfl, rfl⟩) kw_93 (by decide) (by decide) (by decide) ⟨by show _ ≤ 4; omega, by show _ ≤ 28; omega⟩ dX10_init_16 ?_
  refine r_letT hF (fun T9 eT9 hF => ?_)
  refine r_letI hF (fun I10 hF => ?_)
  refine r_letJ hF (fun J11 hF => ?_)
  refine r_letP hF (fun P12 eP12 hF => ?_)
  have m13 : Mono T T9 := by rw [eT9]; exact (m5).new
  have i14 : IS T9 (64 + T1.1) 13 := by rw [eT9]; exact IS.fresh
  have l15 : T9.2.2 (64 + T1.1) = 6 := by rw [eT9]; exact va_up_self _ _ _
  refine r_dup dX10_init_18 rfl ?_
  refine r_iconst (v := 0) dX10_init_19 (by decide) ?_
  refine r_bipush (v := 16) dX10_init_20 (by decide) ?_
  refine r_iast i14 (by rw [l15]; decide) dX10_init_22 ?_
  refine r_letI hF (fun I16 hF => ?_)
  refine r_dup dX10_init_23 rfl ?_
  refine r_iconst (v := 1) dX10_init_24 (by decide) ?_
  refine r_bipush (v := 8) dX10_init_25 (by decide) ?_
  refine r_iast i14 (by rw [l15]; decide) dX10_init_27 ?_
  refine r_letI hF (fun I17 hF => ?_)
  refine r_dup dX10_init_28 rfl ?_
  refine r_iconst (v := 2) dX10_init_29 (by decide) ?_
  refine r_bipush (v := 24) dX10_init_30 (by decide) ?_
  refine r_iast i14 (by rw [l15]; decide) dX10_init_32 ?_
  refine r_letI hF (fun I18 hF => ?_)
  refine r_dup dX10_init_33 rfl ?_
  refine r_iconst (v := 3) dX10_init_34 (by decide) ?_
  refine r_bipush (v := 20) dX10_init_35 (by decide) ?_
  refine r_iast i14 (by rw [l15]; decide) dX10_init_37 ?_
  refine r_letI hF (fun I19 hF => ?_)
  refine r_dup dX10_init_38 rfl ?_
  refine r_iconst (v := 4) dX10_init_39 (by decide) ?_
  refine r_bipush (v := 12) dX10_init_40 (by decide) ?_
  refine r_iast i14 (by rw [l15]; decide) dX10_init_42 ?_
  refine r_letI hF (fun I20 hF => ?_)
  refine r_dup dX10_init_43 rfl ?_
  refine r_iconst (v := 5) dX10_init_44 (by decide) ?_
  refine r_bipush (v := 32) dX10_init_45 (by decide) ?_
  refine r_iast i14 (by rw [l15]; decide) dX10_init_47 ?_
  refine r_letI hF (fun I21 hF => ?_)
  refine r_putP lk_X10_17 (Or.inr ⟨rfl, rfl⟩) (m13 _ _ ha) (fun _ => rfl) (fun _ => rfl) dX10_init_48 ?_
  refine r_letP hF (fun P22 eP22 hF => ?_)
  refine r_aload_n dX10_init_51 rfl rfl ?_
  refine r_iconst (v := 5) dX10_init_52 (by decide) ?_
  refine r_newa (t0 := 0) (at_ := .int) (ty := .int) (k := 13) (n := 5) rfl (Or.inl ⟨rfl, rfl⟩) kw_93 (by decide) (by decide) (by decide) ⟨by show _ ≤ 4; omega, by show _ ≤ 28; omega⟩ dX10_init_53 ?_
  refine r_letT hF (fun T23 eT23 hF => ?_)
  refine r_letI hF (fun I24 hF => ?_)
  refine r_letJ hF (fun J25 hF => ?_)
  refine r_letP hF (fun P26 eP26 hF => ?_)
  have m27 : Mono T T23 := by rw [eT23]; exact (m13).new
  have i28 : IS T23 (64 + T9.1) 13 := by rw [eT23]; exact IS.fresh
  have l29 : T23.2.2 (64 + T9.1) = 5 := by rw [eT23]; exact va_up_self _ _ _
  refine r_dup dX10_init_55 rfl ?_
  refine r_iconst (v := 0) dX10_init_56 (by decide) ?_
  refine r_iconst (v := 0) dX10_init_57 (by decide) ?_
  refine r_iast i28 (by rw [l29]; decide) dX10_init_58 ?_
  refine r_letI hF (fun I30 hF => ?_)
  refine r_dup dX10_init_59 rfl ?_
  refine r_iconst (v := 1) dX10_init_60 (by decide) ?_
  refine r_iconst (v := 0) dX10_init_61 (by decide) ?_
  refine r_iast i28 (by rw [l29]; decide) dX10_init_62 ?_
  refine r_letI hF (fun I31 hF => ?_)
  refine r_dup dX10_init_63 rfl ?_
  refine r_iconst (v := 2) dX10_init_64 (by decide) ?_
  refine r_iconst (v := 1) dX10_init_65 (by decide) ?_
  refine r_iast i28 (by rw [l29]; decide) dX10_init_66 ?_
  refine r_letI hF (fun I32 hF => ?_)
  refine r_dup dX10_init_67 rfl ?_
  refine r_iconst (v := 3) dX10_init_68 (by decide) ?_
  refine r_iconst (v := 0) dX10_init_69 (by decide) ?_
  refine r_iast i28 (by rw [l29]; decide) dX10_init_70 ?_
  refine r_letI hF (fun I33 hF => ?_)
  refine r_dup dX10_init_71 rfl ?_
  refine r_iconst (v := 4) dX10_init_72 (by decide) ?_
  refine r_iconst (v := 0) dX10_init_73 (by decide) ?_
  refine r_iast i28 (by rw [l29]; decide) dX10_init_74 ?_
  refine r_letI hF (fun I34 hF => ?_)
  refine r_putP lk_X10_21 (Or.inr ⟨rfl, rfl⟩) (m27 _ _ ha) (fun _ => rfl) (fun _ => rfl) dX10_init_75 ?_
  refine r_letP hF (fun P35 eP35 hF => ?_)
  refine r_aload_n dX10_init_78 rfl rfl ?_
  refine r_newn (n := 11) ciX1 rfl rfl kw_36 ⟨by show _ ≤ 4; omega, by show _ ≤ 28; omega⟩ dX10_init_79 ?_
  refine r_letT hF (fun T36 eT36 hF => ?_)
  refine r_letI hF (fun I37 hF => ?_)
  refine r_letJ hF (fun J38 hF => ?_)
  refine r_letP hF (fun P39 eP39 hF => ?_)
  have m40 : Mono T T36 := by rw [eT36]; exact (m27).new
  have i41 : IS T36 (64 + T23.1) 1 := by rw [eT36]; exact IS.fresh
  have l42 : T36.2.2 (64 + T23.1) = 0 := by rw [eT36]; exact va_up_self _ _ _
  refine r_dup dX10_init_82 rfl ?_
  obtain ⟨x43, hx43, hF⟩ := bnd hF
  refine ct_init_v (As := []) mi_X1_init rfl rfl kw_39 kw_38 (ok_X1_init i41 hx43) rfl rfl (Nat.le_of_ble_eq_true rfl) ⟨Nat.le_of_ble_eq_true rfl, Nat.le_of_ble_eq_true rfl⟩ ⟨by show _ ≤ 4; omega, by show _ ≤ 28; omega⟩ dX10_init_83 ?_
  intro m440 b45a b45b
  have m44 : Mono T x43.1 := (m40).tr m440
  refine r_putP lk_X10_27 (Or.inr ⟨rfl, rfl⟩) (m44 _ _ ha) (fun _ => rfl) (fun _ => rfl) dX10_init_86 ?_
  refine r_letP hF (fun P46 eP46 hF => ?_)
  refine r_aload_n dX10_init_89 rfl rfl ?_
  refine r_iconst (v := 1) dX10_init_90 (by decide) ?_
  refine r_putI lk_X10_31 (Or.inl rfl) (m44 _ _ ha) rfl rfl dX10_init_91 ?_
  refine r_letI hF (fun I47 hF => ?_)
  obtain rfl := Option.some.inj hF
  exact p_return rfl dX10_init_94 m44 (by omega) (by omega)
set_option maxRecDepth 100000 in
def F_X11_init (T : TM) (I : IM) (J : JM) (P : PM) (a : Nat) : Option (TM × IM × JM × PM) := (letb (nT T 10 0) (fun T1 : TM => (letb (nI0 T I) (fun I2 : IM => (letb (nJ0 T J) (fun J3 : JM => (letb (nP0 T P) (fun P4 : PM => ((F_X10_init T1 I2 J3 P4 (64 + T.1)).bind (fun x8 => (letb (up2 x8.2.2.2 a 0 (some (64 + T.1))) (fun P11 : PM => (letb (nT x8.1 10 0) (fun T12 : TM => (letb (nI0 x8.1 x8.2.1) (fun I13 : IM => (letb (nJ0 x8.1 x8.2.2.1) (fun J14 : JM => (letb (nP0 x8.1 P11) (fun P15 : PM => ((F_X10_init T12 I13 J14 P15 (64 + x8.1.1)).bind (fun x19 => (letb (up2 x19.2.2.2 a 1 (some (64 + x8.1.1))) (fun P22 : PM => (letb (nT x19.1 10 0) (fun T23 : TM => (letb (nI0 x19.1 x19.2.1) (fun I24 : IM => (letb (nJ0 x19.1 x19.2.2.1) (fun J25 : JM => (letb (nP0 x19.1 P22) (fun P26 : PM => ((F_X10_init T23 I24 J25 P26 (64 + x19.1.1)).bind (fun x30 => (letb (up2 x30.2.2.2 a 3 (some (64 + x19.1.1))) (fun P33 : PM => (letb (nT x30.1 6 0) (fun T34 : TM => (letb (nI0 x30.1 x30.2.1) (fun I35 : IM => (letb (nJ0 x30.1 x30.2.2.1) (fun J36 : JM => (letb (nP0 x30.1 P33) (fun P37 : PM => ((F_X6_init T34 I35 J36 P37 (64 + x30.1.1)).bind (fun x41 => (letb (up2 x41.2.2.2 a 4 (some (64 + x30.1.1))) (fun P44 : PM => (letb (nT x41.1 7 0) (fun T45 : TM => (letb (nI0 x41.1 x41.2.1) (fun I46 : IM => (letb (nJ0 x41.1 x41.2.2.1) (fun J47 : JM => (letb (nP0 x41.1 P44) (fun P48 : PM => ((F_X7_init T45 I46 J47 P48 (64 + x41.1.1)).bind (fun x52 => (letb (up2 x52.2.2.2 a 5 (some (64 + x41.1.1))) (fun P55 : PM => (letb (nT x52.1 17 4) (fun T56 : TM => (letb (nI0 x52.1 x52.2.1) (fun I57 : IM => (letb (nJ0 x52.1 x52.2.2.1) (fun J58 : JM => (letb (nP0 x52.1 P55) (fun P59 : PM => (letb (up2 P59 a 6 (some (64 + x52.1.1))) (fun P63 : PM => (letb (nT T56 13 4) (fun T64 : TM => (letb (nI0 T56 I57) (fun I65 : IM => (letb (nJ0 T56 J58) (fun J66 : JM => (letb (nP0 T56 P63) (fun P67 : PM => (letb (up2 P67 a 7 (some (64 + T56.1))) (fun P71 : PM => (letb (nT T64 13 4) (fun T72 : TM => (letb (nI0 T64 I65) (fun I73 : IM => (letb (nJ0 T64 J66) (fun J74 : JM => (letb (nP0 T64 P71) (fun P75 : PM => (letb (up2 P75 a 8 (some (64 + T64.1))) (fun P79 : PM => (letb (nT T72 13 4) (fun T80 : TM => (letb (nI0 T72 I73) (fun I81 : IM => (letb (nJ0 T72 J74) (fun J82 : JM => (letb (nP0 T72 P79) (fun P83 : PM => (letb (up2 P83 a 9 (some (64 + T72.1))) (fun P87 : PM => (letb (nT T80 13 60) (fun T88 : TM => (letb (nI0 T80 I81) (fun I89 : IM => (letb (nJ0 T80 J82) (fun J90 : JM => (letb (nP0 T80 P87) (fun P91 : PM => (letb (up2 P91 a 10 (some (64 + T80.1))) (fun P95 : PM => (letb (nT T88 1 0) (fun T96 : TM => (letb (nI0 T88 I89) (fun I97 : IM => (letb (nJ0 T88 J90) (fun J98 : JM => (letb (nP0 T88 P95) (fun P99 : PM => ((F_X1_init T96 I97 J98 P99 (64 + T88.1)).bind (fun x103 => (letb (up2 x103.2.2.2 a 12 (some (64 + T88.1))) (fun P106 : PM => (letb (nT x103.1 1 0) (fun T107 : TM => (letb (nI0 x103.1 x103.2.1) (fun I108 : IM => (letb (nJ0 x103.1 x103.2.2.1) (fun J109 : JM => (letb (nP0 x103.1 P106) (fun P110 : PM => ((F_X1_init T107 I108 J109 P110 (64 + x103.1.1)).bind (fun x114 => (letb (up2 x114.2.2.2 a 13 (some (64 + x103.1.1))) (fun P117 : PM => (letb (nT x114.1 13 6) (fun T118 : TM => (letb (nI0 x114.1 x114.2.1) (fun I119 : IM => (letb (nJ0 x114.1 x114.2.2.1) (fun J120 : JM => (letb (nP0 x114.1 P117) (fun P121 : PM => (letb (up2 P121 a 14 (some (64 + x114.1.1))) (fun P125 : PM => (letb (nT T118 13 36) (fun T126 : TM => (letb (nI0 T118 I119) (fun I127 : IM => (letb (nJ0 T118 J120) (fun J128 : JM => (letb (nP0 T118 P125) (fun P129 : PM => (letb (up2 P129 a 15 (some (64 + T118.1))) (fun P133 : PM => (osel (P133 a 6) none (fun c134 => (if isKb T126 c134 17 = true ∧ T126.2.2 c134 = 4 then (osel (P133 a 6) none (fun c138 => (if isKb T126 c138 17 = true ∧ T126.2.2 c138 = 4 then (letb (nT T126 3 0) (fun T141 : TM => (letb (nI0 T126 I127) (fun I142 : IM => (letb (nJ0 T126 J128) (fun J143 : JM => (letb (nP0 T126 P133) (fun P144 : PM => ((F_X3_init T141 I142 J143 P144 (64 + T126.1)).bind (fun x148 => (if isKb x148.1 c138 17 = true ∧ x148.1.2.2 c138 = 4 ∧ isKb x148.1 (64 + T126.1) 3 = true then (letb (up2 x148.2.2.2 c138 0 (some (64 + T126.1))) (fun P152 : PM => (osel (P152 a 6) none (fun c153 => (if isKb x148.1 c153 17 = true ∧ x148.1.2.2 c153 = 4 then (osel (P152 a 6) none (fun c157 => (if isKb x148.1 c157 17 = true ∧ x148.1.2.2 c157 = 4 then (letb (nT x148.1 3 0) (fun T160 : TM => (letb (nI0 x148.1 x148.2.1) (fun I161 : IM => (letb (nJ0 x148.1 x148.2.2.1) (fun J162 : JM => (letb (nP0 x148.1 P152) (fun P163 : PM => ((F_X3_init T160 I161 J162 P163 (64 + x148.1.1)).bind (fun x167 => (if isKb x167.1 c157 17 = true ∧ x167.1.2.2 c157 = 4 ∧ isKb x167.1 (64 + x148.1.1) 3 = true then (letb (up2 x167.2.2.2 c157 1 (some (64 + x148.1.1))) (fun P171 : PM => (osel (P171 a 6) none (fun c172 => (if isKb x167.1 c172 17 = true ∧ x167.1.2.2 c172 = 4 then (osel (P171 a 6) none (fun c176 => (if isKb x167.1 c176 17 = true ∧ x167.1.2.2 c176 = 4 then (letb (nT x167.1 3 0) (fun T179 : TM => (letb (nI0 x167.1 x167.2.1) (fun I180 : IM => (letb (nJ0 x167.1 x167.2.2.1) (fun J181 : JM => (letb (nP0 x167.1 P171) (fun P182 : PM => ((F_X3_init T179 I180 J181 P182 (64 + x167.1.1)).bind (fun x186 => (if isKb x186.1 c176 17 = true ∧ x186.1.2.2 c176 = 4 ∧ isKb x186.1 (64 + x167.1.1) 3 = true then (letb (up2 x186.2.2.2 c176 2 (some (64 + x167.1.1))) (fun P190 : PM => (osel (P190 a 6) none (fun c191 => (if isKb x186.1 c191 17 = true ∧ x186.1.2.2 c191 = 4 then (osel (P190 a 6) none (fun c195 => (if isKb x186.1 c195 17 = true ∧ x186.1.2.2 c195 = 4 then (letb (nT x186.1 3 0) (fun T198 : TM => (letb (nI0 x186.1 x186.2.1) (fun I199 : IM => (letb (nJ0 x186.1 x186.2.2.1) (fun J200 : JM => (letb (nP0 x186.1 P190) (fun P201 : PM => ((F_X3_init T198 I199 J200 P201 (64 + x186.1.1)).bind (fun x205 => (if isKb x205.1 c195 17 = true ∧ x205.1.2.2 c195 = 4 ∧ isKb x205.1 (64 + x186.1.1) 3 = true then (letb (up2 x205.2.2.2 c195 3 (some (64 + x186.1.1))) (fun P209 : PM => (osel (P209 a 6) none (fun c210 => (if isKb x205.1 c210 17 = true ∧ x205.1.2.2 c210 = 4 then (some (x205.1, x205.2.1, x205.2.2.1, P209)) else none))))) else none))))))))))) else none))) else none))))) else none))))))))))) else none))) else none))))) else none))))))))))) else none))) else none))))) else none))))))))))) else none))) else none)))))))))))))))))))))))))))))))))))))))))))))))))))))))))))))))))))))))))))))))))))))))))))))))))))))))))))))))))))))))))))))))))))))))))))))))))))))))))))))
set_option maxRecDepth 100000 in
set_option maxHeartbeats 4000000 in
theorem ok_X11_init {E : GE} {T : TM} {I : IM} {J : JM} {P : PM} {a : Nat} {x : TM × IM × JM × PM} (ha : IS T a 11) (hF : F_X11_init T I J P a = some x) : CtrP E (Mono T x.1) mX11_init 3 36 651 [.ref a] T I J P none x.1 x.2.1 x.2.2.1 x.2.2.2 := by
  unfold F_X11_init at hF
  refine ctrP_intro (by decide) (Nat.le_of_ble_eq_true rfl) ?_
  refine r_sub (ls' := [(0, .ref a)]) [0] rfl ?_
  refine r_aload_n dX11_init_0 rfl rfl ?_
  refine r_objInit kw_25 ⟨Nat.le_of_ble_eq_true rfl, Nat.le_of_ble_eq_true rfl⟩ kw_26 kw_27 dX11_init_1 ?_
  refine r_aload_n dX11_init_4 rfl rfl ?_
  refine r_newn (n := 6) ciX10 rfl rfl kw_28 ⟨by show _ ≤ 36; omega, by show _ ≤ 651; omega⟩ dX11_init_5 ?_
  refine r_letT hF (fun T1 eT1 hF => ?_)
  refine r_letI hF (fun I2 hF => ?_)
  refine r_letJ hF (fun J3 hF => ?_)
  refine r_letP hF (fun P4 eP4 hF => ?_)
  have m5 : Mono T T1 := by rw [eT1]; exact (Mono.rf).new
  have i6 : IS T1 (64 + T.1) 10 := by rw [eT1]; exact IS.fresh
  have l7 : T1.2.2 (64 + T.1) = 0 := by rw [eT1]; exact va_up_self _ _ _
  refine r_dup dX11_init_8 rfl ?_
  obtain ⟨x8, hx8, hF⟩ := bnd hF
  refine ct_init_v (As := []) mi_X10_init rfl rfl kw_31 kw_30 (ok_X10_init i6 hx8) rfl rfl (Nat.le_of_ble_eq_true rfl) ⟨Nat.le_of_ble_eq_true rfl, Nat.le_of_ble_eq_true rfl⟩ ⟨by show _ ≤ 36; omega, by show _ ≤ 651; omega⟩ dX11_init_9 ?_
  intro m90 b10a b10b
  have m9 : Mono T x8.1 := (m5).tr m90
  refine r_putP lk_X11_10 (Or.inr ⟨rfl, rfl⟩) (m9 _ _ ha) (fun _ => rfl) (fun _ => rfl) dX11_init_12 ?_
  refine r_letP hF (fun P11 eP11 hF => ?_)
  refine r_aload_n dX11_init_15 rfl rfl ?_
  refine r_newn (n := 6) ciX10 rfl rfl kw_28 ⟨by show _ ≤ 36; omega, by show _ ≤ 651; omega⟩ dX11_init_16 ?_
  refine r_letT hF (fun T12 eT12 hF => ?_)
  refine r_letI hF (fun I13 hF => ?_)
  refine r_letJ hF (fun J14 hF => ?_)
  refine r_letP hF (fun P15 eP15 hF => ?_)
  have m16 : Mono T T12 := by rw [eT12]; exact (m9).new
  have i17 : IS T12 (64 + x8.1.1) 10 := by rw [eT12]; exact IS.fresh
  have l18 : T12.2.2 (64 + x8.1.1) = 0 := by rw [eT12]; exact va_up_self _ _ _
  refine r_dup dX11_init_19 rfl ?_
  obtain ⟨x19, hx19, hF⟩ := bnd hF
  refine ct_init_v (As := []) mi_X10_init rfl rfl kw_31 kw_30 (ok_X10_init i17 hx19) rfl rfl (Nat.le_of_ble_eq_true rfl) ⟨Nat.le_of_ble_eq_true rfl, Nat.le_of_ble_eq_true rfl⟩ ⟨by show _ ≤ 36; omega, by show _ ≤ 651; omega⟩ dX11_init_20 ?_
  intro m200 b21a b21b
  have m20 : Mono T x19.1 := (m16).tr m200
  refine r_putP lk_X11_16 (Or.inr ⟨rfl, rfl⟩) (m20 _ _ ha) (fun _ => rfl) (fun _ => rfl) dX11_init_23 ?_
  refine r_letP hF (fun P22 eP22 hF => ?_)
  refine r_aload_n dX11_init_26 rfl rfl ?_
  refine r_newn (n := 6) ciX10 rfl rfl kw_28 ⟨by show _ ≤ 36; omega, by show _ ≤ 651; omega⟩ dX11_init_27 ?_
  refine r_letT hF (fun T23 eT23 hF => ?_)
  refine r_letI hF (fun I24 hF => ?_)
  refine r_letJ hF (fun J25 hF => ?_)
  refine r_letP hF (fun P26 eP26 hF => ?_)
  have m27 : Mono T T23 := by rw [eT23]; exact (m20).new
  have i28 : IS T23 (64 + x19.1.1) 10 := by rw [eT23]; exact IS.fresh
  have l29 : T23.2.2 (64 + x19.1.1) = 0 := by rw [eT23]; exact va_up_self _ _ _
  refine r_dup dX11_init_30 rfl ?_
  obtain ⟨x30, hx30, hF⟩ := bnd hF
  refine ct_init_v (As := []) mi_X10_init rfl rfl kw_31 kw_30 (ok_X10_init i28 hx30) rfl rfl (Nat.le_of_ble_eq_true rfl) ⟨Nat.le_of_ble_eq_true rfl, Nat.le_of_ble_eq_true rfl⟩ ⟨by show _ ≤ 36; omega, by show _ ≤ 651; omega⟩ dX11_init_31 ?_
  intro m310 b32a b32b
  have m31 : Mono T x30.1 := (m27).tr m310
  refine r_putP lk_X11_19 (Or.inr ⟨rfl, rfl⟩) (m31 _ _ ha) (fun _ => rfl) (fun _ => rfl) dX11_init_34 ?_
  refine r_letP hF (fun P33 eP33 hF => ?_)
  refine r_aload_n dX11_init_37 rfl rfl ?_
  refine r_newn (n := 4) ciX6 rfl rfl kw_121 ⟨by show _ ≤ 36; omega, by show _ ≤ 651; omega⟩ dX11_init_38 ?_
  refine r_letT hF (fun T34 eT34 hF => ?_)
  refine r_letI hF (fun I35 hF => ?_)
  refine r_letJ hF (fun J36 hF => ?_)
  refine r_letP hF (fun P37 eP37 hF => ?_)
  have m38 : Mono T T34 := by rw [eT34]; exact (m31).new
  have i39 : IS T34 (64 + x30.1.1) 6 := by rw [eT34]; exact IS.fresh
  have l40 : T34.2.2 (64 + x30.1.1) = 0 := by rw [eT34]; exact va_up_self _ _ _
  refine r_dup dX11_init_41 rfl ?_
  obtain ⟨x41, hx41, hF⟩ := bnd hF
  refine ct_init_v (As := []) mi_X6_init rfl rfl kw_124 kw_123 (ok_X6_init i39 hx41) rfl rfl (Nat.le_of_ble_eq_true rfl) ⟨Nat.le_of_ble_eq_true rfl, Nat.le_of_ble_eq_true rfl⟩ ⟨by show _ ≤ 36; omega, by show _ ≤ 651; omega⟩ dX11_init_42 ?_
  intro m420 b43a b43b
  have m42 : Mono T x41.1 := (m38).tr m420
  refine r_putP lk_X11_25 (Or.inr ⟨rfl, rfl⟩) (m42 _ _ ha) (fun _ => rfl) (fun _ => rfl) dX11_init_45 ?_
  refine r_letP hF (fun P44 eP44 hF => ?_)
  refine r_aload_n dX11_init_48 rfl rfl ?_
  refine r_newn (n := 3) ciX7 rfl rfl kw_142 ⟨by show _ ≤ 36; omega, by show _ ≤ 651; omega⟩ dX11_init_49 ?_
  refine r_letT hF (fun T45 eT45 hF => ?_)
  refine r_letI hF (fun I46 hF => ?_)
  refine r_letJ hF (fun J47 hF => ?_)
  refine r_letP hF (fun P48 eP48 hF => ?_)
  have m49 : Mono T T45 := by rw [eT45]; exact (m42).new
  have i50 : IS T45 (64 + x41.1.1) 7 := by rw [eT45]; exact IS.fresh
  have l51 : T45.2.2 (64 + x41.1.1) = 0 := by rw [eT45]; exact va_up_self _ _ _
  refine r_dup dX11_init_52 rfl ?_
  obtain ⟨x52, hx52, hF⟩ := bnd hF
  refine ct_init_v (As := []) mi_X7_init rfl rfl kw_145 kw_144 (ok_X7_init i50 hx52) rfl rfl (Nat.le_of_ble_eq_true rfl) ⟨Nat.le_of_ble_eq_true rfl, Nat.le_of_ble_eq_true rfl⟩ ⟨by show _ ≤ 36; omega, by show _ ≤ 651; omega⟩ dX11_init_53 ?_
  intro m530 b54a b54b
  have m53 : Mono T x52.1 := (m49).tr m530
  refine r_putP lk_X11_32 (Or.inr ⟨rfl, rfl⟩) (m53 _ _ ha) (fun _ => rfl) (fun _ => rfl) dX11_init_56 ?_
  refine r_letP hF (fun P55 eP55 hF => ?_)
  refine r_aload_n dX11_init_59 rfl rfl ?_
  refine r_iconst (v := 4) dX11_init_60 (by decide) ?_
  refine r_newq (k := 17) (n := 4) (Or.inr ⟨rfl, rfl⟩) kw_162 (by decide) (by decide) (by decide) ⟨by show _ ≤ 36; omega, by show _ ≤ 651; omega⟩ dX11_init_61 ?_
  refine r_letT hF (fun T56 eT56 hF => ?_)
  refine r_letI hF (fun I57 hF => ?_)
  refine r_letJ hF (fun J58 hF => ?_)
  refine r_letP hF (fun P59 eP59 hF => ?_)
  have m60 : Mono T T56 := by rw [eT56]; exact (m53).new
  have i61 : IS T56 (64 + x52.1.1) 17 := by rw [eT56]; exact IS.fresh
  have l62 : T56.2.2 (64 + x52.1.1) = 4 := by rw [eT56]; exact va_up_self _ _ _
  refine r_putP lk_X11_38 (Or.inr ⟨rfl, rfl⟩) (m60 _ _ ha) (fun _ => rfl) (fun _ => rfl) dX11_init_64 ?_
  refine r_letP hF (fun P63 eP63 hF => ?_)
  refine r_aload_n dX11_init_67 rfl rfl ?_
  refine r_iconst (v := 4) dX11_init_68 (by decide) ?_
  refine r_newa (t0 := 0) (at_ := .int) (ty := .int) (k := 13) (n := 4) rfl (Or.inl ⟨rfl, rfl⟩) kw_93 (by decide) (by decide) (by decide) ⟨by show _ ≤ 36; omega, by show _ ≤ 651; omega⟩ dX11_init_69 ?_
  refine r_letT hF (fun T64 eT64 hF => ?_)
  refine r_letI hF (fun I65 hF => ?_)
  refine r_letJ hF (fun J66 hF => ?_)
  refine r_letP hF (fun P67 eP67 hF => ?_)
  have m68 : Mono T T64 := by rw [eT64]; exact (m60).new
  have i69 : IS T64 (64 + T56.1) 13 := by rw [eT64]; exact IS.fresh
  have l70 : T64.2.2 (64 + T56.1) = 4 := by rw [eT64]; exact va_up_self _ _ _
  refine r_putP lk_X11_42 (Or.inr ⟨rfl, rfl⟩) (m68 _ _ ha) (fun _ => rfl) (fun _ => rfl) dX11_init_71 ?_
  refine r_letP hF (fun P71 eP71 hF => ?_)
  refine r_aload_n dX11_init_74 rfl rfl ?_
  refine r_iconst (v := 4) dX11_init_75 (by decide) ?_
  refine r_newa (t0 := 0) (at_ := .int) (ty := .int) (k := 13) (n := 4) rfl (Or.inl ⟨rfl, rfl⟩) kw_93 (by decide) (by decide) (by decide) ⟨by show _ ≤ 36; omega, by show _ ≤ 651; omega⟩ dX11_init_76 ?_
  refine r_letT hF (fun T72 eT72 hF => ?_)
  refine r_letI hF (fun I73 hF => ?_)
  refine r_letJ hF (fun J74 hF => ?_)
  refine r_letP hF (fun P75 eP75 hF => ?_)
  have m76 : Mono T T72 := by rw [eT72]; exact (m68).new
  have i77 : IS T72 (64 + T64.1) 13 := by rw [eT72]; exact IS.fresh
  have l78 : T72.2.2 (64 + T64.1) = 4 := by rw [eT72]; exact va_up_self _ _ _
  refine r_putP lk_X11_46 (Or.inr ⟨rfl, rfl⟩) (m76 _ _ ha) (fun _ => rfl) (fun _ => rfl) dX11_init_78 ?_
  refine r_letP hF (fun P79 eP79 hF => ?_)
  refine r_aload_n dX11_init_81 rfl rfl ?_
  refine r_iconst (v := 4) dX11_init_82 (by decide) ?_
  refine r_newa (t0 := 0) (at_ := .int) (ty := .int) (k := 13) (n := 4) rfl (Or.inl ⟨rfl, rfl⟩) kw_93 (by decide) (by decide) (by decide) ⟨by show _ ≤ 36; omega, by show _ ≤ 651; omega⟩ dX11_init_83 ?_
  refine r_letT hF (fun T80 eT80 hF => ?_)
  refine r_letI hF (fun I81 hF => ?_)
  refine r_letJ hF (fun J82 hF => ?_)
  refine r_letP hF (fun P83 eP83 hF => ?_)
  have m84 : Mono T T80 := by rw [eT80]; exact (m76).new
  have i85 : IS T80 (64 + T72.1) 13 := by rw [eT80]; exact IS.fresh
  have l86 : T80.2.2 (64 + T72.1) = 4 := by rw [eT80]; exact va_up_self _ _ _
  refine r_putP lk_X11_49 (Or.inr ⟨rfl, rfl⟩) (m84 _ _ ha) (fun _ => rfl) (fun _ => rfl) dX11_init_85 ?_
  refine r_letP hF (fun P87 eP87 hF => ?_)
  refine r_aload_n dX11_init_88 rfl rfl ?_
  refine r_bipush (v := 60) dX11_init_89 (by decide) ?_
  refine r_newa (t0 := 0) (at_ := .int) (ty := .int) (k := 13) (n := 60) rfl (Or.inl ⟨rfl, rfl⟩) kw_93 (by decide) (by decide) (by decide) ⟨by show _ ≤ 36; omega, by show _ ≤ 651; omega⟩ dX11_init_91 ?_
  refine r_letT hF (fun T88 eT88 hF => ?_)
  refine r_letI hF (fun I89 hF => ?_)
  refine r_letJ hF (fun J90 hF => ?_)
  refine r_letP hF (fun P91 eP91 hF => ?_)
  have m92 : Mono T T88 := by rw [eT88]; exact (m84).new
  have i93 : IS T88 (64 + T80.1) 13 := by rw [eT88]; exact IS.fresh
  have l94 : T88.2.2 (64 + T80.1) = 60 := by rw [eT88]; exact va_up_self _ _ _
  refine r_putP lk_X11_52 (Or.inr ⟨rfl, rfl⟩) (m92 _ _ ha) (fun _ => rfl) (fun _ => rfl) dX11_init_93 ?_
  refine r_letP hF (fun P95 eP95 hF => ?_)
  refine r_aload_n dX11_init_96 rfl rfl ?_
  refine r_newn (n := 11) ciX1 rfl rfl kw_164 ⟨by show _ ≤ 36; omega, by show _ ≤ 651; omega⟩ dX11_init_97 ?_
  refine r_letT hF (fun T96 eT96 hF => ?_)
  refine r_letI hF (fun I97 hF => ?_)
  refine r_letJ hF (fun J98 hF => ?_)
  refine r_letP hF (fun P99 eP99 hF => ?_)
  have m100 : Mono T T96 := by rw [eT96]; exact (m92).new
  have i101 : IS T96 (64 + T88.1) 1 := by rw [eT96]; exact IS.fresh
  have l102 : T96.2.2 (64 + T88.1) = 0 := by rw [eT96]; exact va_up_self _ _ _
  refine r_dup dX11_init_100 rfl ?_
  obtain ⟨x103, hx103, hF⟩ := bnd hF
  refine ct_init_v (As := []) mi_X1_init rfl rfl kw_39 kw_165 (ok_X1_init i101 hx103) rfl rfl (Nat.le_of_ble_eq_true rfl) ⟨Nat.le_of_ble_eq_true rfl, Nat.le_of_ble_eq_true rfl⟩ ⟨by show _ ≤ 36; omega, by show _ ≤ 651; omega⟩ dX11_init_101 ?_
  intro m1040 b105a b105b
  have m104 : Mono T x103.1 := (m100).tr m1040
  refine r_putP lk_X11_58 (Or.inr ⟨rfl, rfl⟩) (m104 _ _ ha) (fun _ => rfl) (fun _ => rfl) dX11_init_104 ?_
  refine r_letP hF (fun P106 eP106 hF => ?_)
  refine r_aload_n dX11_init_107 rfl rfl ?_
  refine r_newn (n := 11) ciX1 rfl rfl kw_164 ⟨by show _ ≤ 36; omega, by show _ ≤ 651; omega⟩ dX11_init_108 ?_
  refine r_letT hF (fun T107 eT107 hF => ?_)
  refine r_letI hF (fun I108 hF => ?_)
  refine r_letJ hF (fun J109 hF => ?_)
  refine r_letP hF (fun P110 eP110 hF => ?_)
  have m111 : Mono T T107 := by rw [eT107]; exact (m104).new
  have i112 : IS T107 (64 + x103.1.1) 1 := by rw [eT107]; exact IS.fresh
  have l113 : T107.2.2 (64 + x103.1.1) = 0 := by rw [eT107]; exact va_up_self _ _ _
  refine r_dup dX11_init_111 rfl ?_
  obtain ⟨x114, hx114, hF⟩ := bnd hF
  refine ct_init_v (As := []) mi_X1_init rfl rfl kw_39 kw_165 (ok_X1_init i112 hx114) rfl rfl (Nat.le_of_ble_eq_true rfl) ⟨Nat.le_of_ble_eq_true rfl, Nat.le_of_ble_eq_true rfl⟩ ⟨by show _ ≤ 36; omega, by show _ ≤ 651; omega⟩ dX11_init_112 ?_
  intro m1150 b116a b116b
  have m115 : Mono T x114.1 := (m111).tr m1150
  refine r_putP lk_X11_62 (Or.inr ⟨rfl, rfl⟩) (m115 _ _ ha) (fun _ => rfl) (fun _ => rfl) dX11_init_115 ?_
  refine r_letP hF (fun P117 eP117 hF => ?_)
  refine r_aload_n dX11_init_118 rfl rfl ?_
  refine r_bipush (v := 6) dX11_init_119 (by decide) ?_
  refine r_newa (t0 := 0) (at_ := .int) (ty := .int) (k := 13) (n := 6) rfl (Or.inl ⟨rfl, rfl⟩) kw_93 (by decide) (by decide) (by decide) ⟨by show _ ≤ 36; omega, by show _ ≤ 651; omega⟩ dX11_init_121 ?_
  refine r_letT hF (fun T118 eT118 hF => ?_)
  refine r_letI hF (fun I119 hF => ?_)
  refine r_letJ hF (fun J120 hF => ?_)
  refine r_letP hF (fun P121 eP121 hF => ?_)
  have m122 : Mono T T118 := by rw [eT118]; exact (m115).new
  have i123 : IS T118 (64 + x114.1.1) 13 := by rw [eT118]; exact IS.fresh
  have l124 : T118.2.2 (64 + x114.1.1) = 6 := by rw [eT118]; exact va_up_self _ _ _
  refine r_putP lk_X11_65 (Or.inr ⟨rfl, rfl⟩) (m122 _ _ ha) (fun _ => rfl) (fun _ => rfl) dX11_init_123 ?_
  refine r_letP hF (fun P125 eP125 hF => ?_)
  refine r_aload_n dX11_init_126 rfl rfl ?_
  refine r_bipush (v := 36) dX11_init_127 (by decide) ?_
  refine r_newa (t0 := 0) (at_ := .int) (ty := .int) (k := 13) (n := 36) rfl (Or.inl ⟨rfl, rfl⟩) kw_93 (by decide) (by decide) (by decide) ⟨by show _ ≤ 36; omega, by show _ ≤ 651; omega⟩ dX11_init_129 ?_
  refine r_letT hF (fun T126 eT126 hF => ?_)
  refine r_letI hF (fun I127 hF => ?_)
  refine r_letJ hF (fun J128 hF => ?_)
  refine r_letP hF (fun P129 eP129 hF => ?_)
  have m130 : Mono T T126 := by rw [eT126]; exact (m122).new
  have i131 : IS T126 (64 + T118.1) 13 := by rw [eT126]; exact IS.fresh
  have l132 : T126.2.2 (64 + T118.1) = 36 := by rw [eT126]; exact va_up_self _ _ _
  refine r_putP lk_X11_68 (Or.inr ⟨rfl, rfl⟩) (m130 _ _ ha) (fun _ => rfl) (fun _ => rfl) dX11_init_131 ?_
  refine r_letP hF (fun P133 eP133 hF => ?_)
  refine r_iconst (v := 0) dX11_init_134 (by decide) ?_
  refine r_istore_n (ls' := [(1, .int 0), (0, .ref a)]) dX11_init_135 rfl (by decide) rfl ?_
  refine r_iload_n dX11_init_136 rfl rfl ?_
  refine r_aload_n dX11_init_137 rfl rfl ?_
  rcases q135 : P133 a 6 with _ | c134
  · have hF := (osel_n q135).symm.trans hF
    cases hF
  have hF := (osel_s q135).symm.trans hF
  obtain ⟨g136, hF⟩ := gd hF
  refine r_getP lk_X11_38 (m130 _ _ ha) q135 dX11_init_138 ?_
  refine r_alen (v := 4) (isKb_of g136.1) (by decide) (by rw [g136.2]; rfl) dX11_init_141 ?_
  refine r_icmp_ge (tgt := 164) dX11_init_142 (by decide) (fun h137 => absurd h137 (by decide)) (fun h137 => ?_)
  refine r_aload_n dX11_init_145 rfl rfl ?_
  rcases q139 : P133 a 6 with _ | c138
  · have hF := (osel_n q139).symm.trans hF
    cases hF
  have hF := (osel_s q139).symm.trans hF
  obtain ⟨g140, hF⟩ := gd hF
  refine r_getP lk_X11_38 (m130 _ _ ha) q139 dX11_init_146 ?_
  refine r_iload_n dX11_init_149 rfl rfl ?_
  refine r_newn (n := 3) ciX3 rfl rfl kw_162 ⟨by show _ ≤ 36; omega, by show _ ≤ 651; omega⟩ dX11_init_150 ?_
  refine r_letT hF (fun T141 eT141 hF => ?_)
  refine r_letI hF (fun I142 hF => ?_)
  refine r_letJ hF (fun J143 hF => ?_)
  refine r_letP hF (fun P144 eP144 hF => ?_)
  have m145 : Mono T T141 := by rw [eT141]; exact (m130).new
  have i146 : IS T141 (64 + T126.1) 3 := by rw [eT141]; exact IS.fresh
  have l147 : T141.2.2 (64 + T126.1) = 0 := by rw [eT141]; exact va_up_self _ _ _
  refine r_dup dX11_init_153 rfl ?_
  obtain ⟨x148, hx148, hF⟩ := bnd hF
  refine ct_init_v (As := []) mi_X3_init rfl rfl kw_168 kw_167 (ok_X3_init i146 hx148) rfl rfl (Nat.le_of_ble_eq_true rfl) ⟨Nat.le_of_ble_eq_true rfl, Nat.le_of_ble_eq_true rfl⟩ ⟨by show _ ≤ 36; omega, by show _ ≤ 651; omega⟩ dX11_init_154 ?_
  intro m1490 b150a b150b
  have m149 : Mono T x148.1 := (m145).tr m1490
  obtain ⟨g151, hF⟩ := gd hF
  refine r_aastS (isKb_of g151.1) (by rw [g151.2.1]; decide) (isKb_of g151.2.2) dX11_init_157 ?_
  refine r_letP hF (fun P152 eP152 hF => ?_)
  refine r_iinc (v := 1) (ls' := [(1, .int 1), (0, .ref a)]) dX11_init_158 rfl (by decide) (by decide) rfl ?_
  refine r_goto (tgt := 136) dX11_init_161 (by decide) ?_
  refine r_iload_n dX11_init_136 rfl rfl ?_
  refine r_aload_n dX11_init_137 rfl rfl ?_
  rcases q154 : P152 a 6 with _ | c153
  · have hF := (osel_n q154).symm.trans hF
    cases hF
  have hF := (osel_s q154).symm.trans hF
  obtain ⟨g155, hF⟩ := gd hF
  refine r_getP lk_X11_38 (m149 _ _ ha) q154 dX11_init_138 ?_
  refine r_alen (v := 4) (isKb_of g155.1) (by decide) (by rw [g155.2]; rfl) dX11_init_141 ?_
  refine r_icmp_ge (tgt := 164) dX11_init_142 (by decide) (fun h156 => absurd h156 (by decide)) (fun h156 => ?_)
  refine r_aload_n dX11_init_145 rfl rfl ?_
  rcases q158 : P152 a 6 with _ | c157
  · have hF := (osel_n q158).symm.trans hF
    cases hF
  have hF := (osel_s q158).symm.trans hF
  obtain ⟨g159, hF⟩ := gd hF
  refine r_getP lk_X11_38 (m149 _ _ ha) q158 dX11_init_146 ?_
  refine r_iload_n dX11_init_149 rfl rfl ?_
  refine r_newn (n := 3) ciX3 rfl rfl kw_162 ⟨by show _ ≤ 36; omega, by show _ ≤ 651; omega⟩ dX11_init_150 ?_
  refine r_letT hF (fun T160 eT160 hF => ?_)
  refine r_letI hF (fun I161 hF => ?_)
  refine r_letJ hF (fun J162 hF => ?_)
  refine r_letP hF (fun P163 eP163 hF => ?_)
  have m164 : Mono T T160 := by rw [eT160]; exact (m149).new
  have i165 : IS T160 (64 + x148.1.1) 3 := by rw [eT160]; exact IS.fresh
  have l166 : T160.2.2 (64 + x148.1.1) = 0 := by rw [eT160]; exact va_up_self _ _ _
  refine r_dup dX11_init_153 rfl ?_
  obtain ⟨x167, hx167, hF⟩ := bnd hF
  refine ct_init_v (As := []) mi_X3_init rfl rfl kw_168 kw_167 (ok_X3_init i165 hx167) rfl rfl (Nat.le_of_ble_eq_true rfl) ⟨Nat.le_of_ble_eq_true rfl, Nat.le_of_ble_eq_true rfl⟩ ⟨by show _ ≤ 36; omega, by show _ ≤ 651; omega⟩ dX11_init_154 ?_
  intro m1680 b169a b169b
  have m168 : Mono T x167.1 := (m164).tr m1680
  obtain ⟨g170, hF⟩ := gd hF
  refine r_aastS (isKb_of g170.1) (by rw [g170.2.1]; decide) (isKb_of g170.2.2) dX11_init_157 ?_
  refine r_letP hF (fun P171 eP171 hF => ?_)
  refine r_iinc (v := 2) (ls' := [(1, .int 2), (0, .ref a)]) dX11_init_158 rfl (by decide) (by decide) rfl ?_
  refine r_goto (tgt := 136) dX11_init_161 (by decide) ?_
  refine r_iload_n dX11_init_136 rfl rfl ?_
  refine r_aload_n dX11_init_137 rfl rfl ?_
  rcases q173 : P171 a 6 with _ | c172
  · have hF := (osel_n q173).symm.trans hF
    cases hF
  have hF := (osel_s q173).symm.trans hF
  obtain ⟨g174, hF⟩ := gd hF
  refine r_getP lk_X11_38 (m168 _ _ ha) q173 dX11_init_138 ?_
  refine r_alen (v := 4) (isKb_of g174.1) (by decide) (by rw [g174.2]; rfl) dX11_init_141 ?_
  refine r_icmp_ge (tgt := 164) dX11_init_142 (by decide) (fun h175 => absurd h175 (by decide)) (fun h175 => ?_)
  refine r_aload_n dX11_init_145 rfl rfl ?_
  rcases q177 : P171 a 6 with _ | c176
  · have hF := (osel_n q177).symm.trans hF
    cases hF
  have hF := (osel_s q177).symm.trans hF
  obtain ⟨g178, hF⟩ := gd hF
  refine r_getP lk_X11_38 (m168 _ _ ha) q177 dX11_init_146 ?_
  refine r_iload_n dX11_init_149 rfl rfl ?_
  refine r_newn (n := 3) ciX3 rfl rfl kw_162 ⟨by show _ ≤ 36; omega, by show _ ≤ 651; omega⟩ dX11_init_150 ?_
  refine r_letT hF (fun T179 eT179 hF => ?_)
  refine r_letI hF (fun I180 hF => ?_)
  refine r_letJ hF (fun J181 hF => ?_)
  refine r_letP hF (fun P182 eP182 hF => ?_)
  have m183 : Mono T T179 := by rw [eT179]; exact (m168).new
  have i184 : IS T179 (64 + x167.1.1) 3 := by rw [eT179]; exact IS.fresh
  have l185 : T179.2.2 (64 + x167.1.1) = 0 := by rw [eT179]; exact va_up_self _ _ _
  refine r_dup dX11_init_153 rfl ?_
  obtain ⟨x186, hx186, hF⟩ := bnd hF
  refine ct_init_v (As := []) mi_X3_init rfl rfl kw_168 kw_167 (ok_X3_init i184 hx186) rfl rfl (Nat.le_of_ble_eq_true rfl) ⟨Nat.le_of_ble_eq_true rfl, Nat.le_of_ble_eq_true rfl⟩ ⟨by show _ ≤ 36; omega, by show _ ≤ 651; omega⟩ dX11_init_154 ?_
  intro m1870 b188a b188b
  have m187 : Mono T x186.1 := (m183).tr m1870
  obtain ⟨g189, hF⟩ := gd hF
  refine r_aastS (isKb_of g189.1) (by rw [g189.2.1]; decide) (isKb_of g189.2.2) dX11_init_157 ?_
  refine r_letP hF (fun P190 eP190 hF => ?_)
  refine r_iinc (v := 3) (ls' := [(1, .int 3), (0, .ref a)]) dX11_init_158 rfl (by decide) (by decide) rfl ?_
  refine r_goto (tgt := 136) dX11_init_161 (by decide) ?_
  refine r_iload_n dX11_init_136 rfl rfl ?_
  refine r_aload_n dX11_init_137 rfl rfl ?_
  rcases q192 : P190 a 6 with _ | c191
  · have hF := (osel_n q192).symm.trans hF
    cases hF
  have hF := (osel_s q192).symm.trans hF
  obtain ⟨g193, hF⟩ := gd hF
  refine r_getP lk_X11_38 (m187 _ _ ha) q192 dX11_init_138 ?_
  refine r_alen (v := 4) (isKb_of g193.1) (by decide) (by rw [g193.2]; rfl) dX11_init_141 ?_
  refine r_icmp_ge (tgt := 164) dX11_init_142 (by decide) (fun h194 => absurd h194 (by decide)) (fun h194 => ?_)
  refine r_aload_n dX11_init_145 rfl rfl ?_
  rcases q196 : P190 a 6 with _ | c195
  · have hF := (osel_n q196).symm.trans hF
    cases hF
  have hF := (osel_s q196).symm.trans hF
  obtain ⟨g197, hF⟩ := gd hF
  refine r_getP lk_X11_38 (m187 _ _ ha) q196 dX11_init_146 ?_
  refine r_iload_n dX11_init_149 rfl rfl ?_
  refine r_newn (n := 3) ciX3 rfl rfl kw_162 ⟨by show _ ≤ 36; omega, by show _ ≤ 651; omega⟩ dX11_init_150 ?_
  refine r_letT hF (fun T198 eT198 hF => ?_)
  refine r_letI hF (fun I199 hF => ?_)
  refine r_letJ hF (fun J200 hF => ?_)
  refine r_letP hF (fun P201 eP201 hF => ?_)
  have m202 : Mono T T198 := by rw [eT198]; exact (m187).new
  have i203 : IS T198 (64 + x186.1.1) 3 := by rw [eT198]; exact IS.fresh
  have l204 : T198.2.2 (64 + x186.1.1) = 0 := by rw [eT198]; exact va_up_self _ _ _
  refine r_dup dX11_init_153 rfl ?_
  obtain ⟨x205, hx205, hF⟩ := bnd hF
  refine ct_init_v (As := []) mi_X3_init rfl rfl kw_168 kw_167 (ok_X3_init i203 hx205) rfl rfl (Nat.le_of_ble_eq_true rfl) ⟨Nat.le_of_ble_eq_true rfl, Nat.le_of_ble_eq_true rfl⟩ ⟨by show _ ≤ 36; omega, by show _ ≤ 651; omega⟩ dX11_init_154 ?_
  intro m2060 b207a b207b
  have m206 : Mono T x205.1 := (m202).tr m2060
  obtain ⟨g208, hF⟩ := gd hF
  refine r_aastS (isKb_of g208.1) (by rw [g208.2.1]; decide) (isKb_of g208.2.2) dX11_init_157 ?_
  refine r_letP hF (fun P209 eP209 hF => ?_)
  refine r_iinc (v := 4) (ls' := [(1, .int 4), (0, .ref a)]) dX11_init_158 rfl (by decide) (by decide) rfl ?_
  refine r_goto (tgt := 136) dX11_init_161 (by decide) ?_
  refine r_iload_n dX11_init_136 rfl rfl ?_
  refine r_aload_n dX11_init_137 rfl rfl ?_
  rcases q211 : P209 a 6 with _ | c210
  · have hF := (osel_n q211).symm.trans hF
    cases hF
  have hF := (osel_s q211).symm.trans hF
  obtain ⟨g212, hF⟩ := gd hF
  refine r_getP lk_X11_38 (m206 _ _ ha) q211 dX11_init_138 ?_
  refine r_alen (v := 4) (isKb_of g212.1) (by decide) (by rw [g212.2]; rfl) dX11_init_141 ?_
  refine r_icmp_ge (tgt := 164) dX11_init_142 (by decide) (fun h213 => ?_) (fun h213 => absurd (by decide) h213)
  obtain rfl := Option.some.inj hF
  exact p_return rfl dX11_init_164 m206 (by omega) (by omega)
set_option maxRecDepth 100000 in
def F_X12_init (T : TM) (I : IM) (J : JM) (P : PM) (a : Nat) : Option (TM × IM × JM × PM) := (letb (nT T 13 24) (fun T1 : TM => (letb (nI0 T I) (fun I2 : IM => (letb (nJ0 T J) (fun J3 : JM => (letb (nP0 T P) (fun P4 : PM => (letb (up2 P4 a 1 (some (64 + T.1))) (fun P8 : PM => (letb (nT T1 13 6) (fun T9 : TM => (letb (nI0 T1 I2) (fun I10 : IM => (letb (nJ0 T1 J3) (fun J11 : JM => (letb (nP0 T1 P8) (fun P12 : PM => (letb (up2 I10 (64 + T1.1) 0 16) (fun I16 : IM => (letb (up2 I16 (64 + T1.1) 1 8) (fun I17 : IM => (letb (up2 I17 (64 + T1.1) 2 24) (fun I18 : IM => (letb (up2 I18 (64 + T1.1) 3 20) (fun I19 : IM => (letb (up2 I19 (64 + T1.1) 4 12) (fun I20 : IM => (letb (up2 I20 (64 + T1.1) 5 32) (fun I21 : IM => (letb (up2 P12 a 2 (some (64 + T1.1))) (fun P22 : PM => (letb (nT T9 13 5) (fun T23 : TM => (letb (nI0 T9 I21) (fun I24 : IM => (letb (nJ0 T9 J11) (fun J25 : JM => (letb (nP0 T9 P22) (fun P26 : PM => (letb (up2 I24 (64 + T9.1) 0 0) (fun I30 : IM => (letb (up2 I30 (64 + T9.1) 1 0) (fun I31 : IM => (letb (up2 I31 (64 + T9.1) 2 1) (fun I32 : IM => (letb (up2 I32 (64 + T9.1) 3 0) (fun I33 : IM => (letb (up2 I33 (64 + T9.1) 4 0) (fun I34 : IM => (letb (up2 P26 a 3 (some (64 + T9.1))) (fun P35 : PM => (letb (nT T23 13 10) (fun T36 : TM => (letb (nI0 T23 I34) (fun I37 : IM => (letb (nJ0 T23 J25) (fun J38 : JM => (letb (nP0 T23 P35) (fun P39 : PM => (letb (up2 I37 (64 + T23.1) 0 0) (fun I43 : IM => (letb (up2 I43 (64 + T23.1) 1 174) (fun I44 : IM => (letb (up2 I44 (64 + T23.1) 2 342) (fun I45 : IM => (letb (up2 I45 (64 + T23.1) 3 500) (fun I46 : IM => (letb (up2 I46 (64 + T23.1) 4 643) (fun I47 : IM => (letb (up2 I47 (64 + T23.1) 5 766) (fun I48 : IM => (letb (up2 I48 (64 + T23.1) 6 866) (fun I49 : IM => (letb (up2 I49 (64 + T23.1) 7 940) (fun I50 : IM => (letb (up2 I50 (64 + T23.1) 8 985) (fun I51 : IM => (letb (up2 I51 (64 + T23.1) 9 1000) (fun I52 : IM => (letb (up2 P39 a 4 (some (64 + T23.1))) (fun P53 : PM => (letb (up2 I52 a 5 1) (fun I54 : IM => (letb (nT T36 13 8) (fun T55 : TM => (letb (nI0 T36 I54) (fun I56 : IM => (letb (nJ0 T36 J38) (fun J57 : JM => (letb (nP0 T36 P53) (fun P58 : PM => (letb (up2 I56 (64 + T36.1) 0 (-1)) (fun I62 : IM => (letb (up2 I62 (64 + T36.1) 1 0) (fun I63 : IM => (letb (up2 I63 (64 + T36.1) 2 0) (fun I64 : IM => (letb (up2 I64 (64 + T36.1) 3 0) (fun I65 : IM => (letb (up2 I65 (64 + T36.1) 4 0) (fun I66 : IM => (letb (up2 I66 (64 + T36.1) 5 0) (fun I67 : IM => (letb (up2 I67 (64 + T36.1) 6 0) (fun I68 : IM => (letb (up2 I68 (64 + T36.1) 7 0) (fun I69 : IM => (letb (up2 P58 a 6 (some (64 + T36.1))) (fun P70 : PM => (letb (nT T55 13 200) (fun T71 : TM => (letb (nI0 T55 I69) (fun I72 : IM => (letb (nJ0 T55 J57) (fun J73 : JM => (letb (nP0 T55 P70) (fun P74 : PM => (letb (up2 P74 a 7 (some (64 + T55.1))) (fun P78 : PM => (letb (nT T71 13 24) (fun T79 : TM => (letb (nI0 T71 I72) (fun I80 : IM => (letb (nJ0 T71 J73) (fun J81 : JM => (letb (nP0 T71 P78) (fun P82 : PM => (letb (up2 P82 a 16 (some (64 + T71.1))) (fun P86 : PM => (letb (nT T79 13 6) (fun T87 : TM => (letb (nI0 T79 I80) (fun I88 : IM => (letb (nJ0 T79 J81) (fun J89 : JM => (letb (nP0 T79 P86) (fun P90 : PM => (letb (up2 P90 a 17 (some (64 + T79.1))) (fun P94 : PM => (letb (nT T87 13 5) (fun T95 : TM => (letb (nI0 T87 I88) (fun I96 : IM => (letb (nJ0 T87 J89) (fun J97 : JM => (letb (nP0 T87 P94) (fun P98 : PM => (letb (up2 P98 a 18 (some (64 + T87.1))) (fun P102 : PM => (letb (nT T95 13 400) (fun T103 : TM => (letb (nI0 T95 I96) (fun I104 : IM => (letb (nJ0 T95 J97) (fun J105 : JM => (letb (nP0 T95 P102) (fun P106 : PM => (letb (up2 P106 a 32 (some (64 + T95.1))) (fun P110 : PM => (letb (nT T103 13 400) (fun T111 : TM => (letb (nI0 T103 I104) (fun I112 : IM => (letb (nJ0 T103 J105) (fun J113 : JM => (letb (nP0 T103 P110) (fun P114 : PM => (letb (up2 P114 a 33 (some (64 + T103.1))) (fun P118 : PM => (letb (nT T111 13 60) (fun T119 : TM => (letb (nI0 T111 I112) (fun I120 : IM => (letb (nJ0 T111 J113) (fun J121 : JM => (letb (nP0 T111 P118) (fun P122 : PM => (letb (up2 P122 a 34 (some (64 + T111.1))) (fun P126 : PM => (letb (nT T119 13 60) (fun T127 : TM => (letb (nI0 T119 I120) (fun I128 : IM => (letb (nJ0 T119 J121) (fun J129 : JM => (letb (nP0 T119 P126) (fun P130 : PM => (letb (up2 P130 a 35 (some (64 + T119.1))) (fun P134 : PM => (letb (nT T127 13 4) (fun T135 : TM => (letb (nI0 T127 I128) (fun I136 : IM => (letb (nJ0 T127 J129) (fun J137 : JM => (letb (nP0 T127 P134) (fun P138 : PM => (letb (up2 I136 (64 + T127.1) 0 (-1)) (fun I142 : IM => (letb (up2 I142 (64 + T127.1) 1 (-1)) (fun I143 : IM => (letb (up2 I143 (64 + T127.1) 2 (-1)) (fun I144 : IM => (letb (up2 I144 (64 + T127.1) 3 (-1)) (fun I145 : IM => (letb (up2 P138 a 38 (some (64 + T127.1))) (fun P146 : PM => (letb (nT T135 13 4) (fun T147 : TM => (letb (nI0 T135 I145) (fun I148 : IM => (letb (nJ0 T135 J137) (fun J149 : JM => (letb (nP0 T135 P146) (fun P150 : PM => (letb (up2 P150 a 39 (some (64 + T135.1))) (fun P154 : PM => (letb (nT T147 14 160) (fun T155 : TM => (letb (nI0 T147 I148) (fun I156 : IM => (letb (nJ0 T147 J149) (fun J157 : JM => (letb (nP0 T147 P154) (fun P158 : PM => (letb (up2 P158 a 40 (some (64 + T147.1))) (fun P162 : PM => (letb (nT T155 13 4) (fun T163 : TM => (letb (nI0 T155 I156) (fun I164 : IM => (letb (nJ0 T155 J157) (fun J165 : JM => (letb (nP0 T155 P162) (fun P166 : PM => (letb (up2 I164 (64 + T155.1) 0 (-1)) (fun I170 : IM => (letb (up2 I170 (64 + T155.1) 1 (-1)) (fun I171 : IM => (letb (up2 I171 (64 + T155.1) 2 (-1)) (fun I172 : IM => (letb (up2 I172 (64 + T155.1) 3 (-1)) (fun I173 : IM => (letb (up2 P166 a 41 (some (64 + T155.1))) (fun P174 : PM => (letb (nT T163 13 4) (fun T175 : TM => (letb (nI0 T163 I173) (fun I176 : IM => (letb (nJ0 T163 J165) (fun J177 : JM => (letb (nP0 T163 P174) (fun P178 : PM => (letb (up2 P178 a 42 (some (64 + T163.1))) (fun P182 : PM => (letb (nT T175 13 4) (fun T183 : TM => (letb (nI0 T175 I176) (fun I184 : IM => (letb (nJ0 T175 J177) (fun J185 : JM => (letb (nP0 T175 P182) (fun P186 : PM => (letb (up2 P186 a 43 (some (64 + T175.1))) (fun P190 : PM => (letb (nT T183 13 30) (fun T191 : TM => (letb (nI0 T183 I184) (fun I192 : IM => (letb (nJ0 T183 J185) (fun J193 : JM => (letb (nP0 T183 P190) (fun P194 : PM => (letb (up2 P194 a 47 (some (64 + T183.1))) (fun P198 : PM => (letb (nT T191 13 60) (fun T199 : TM => (letb (nI0 T191 I192) (fun I200 : IM => (letb (nJ0 T191 J193) (fun J201 : JM => (letb (nP0 T191 P198) (fun P202 : PM => (letb (up2 P202 a 51 (some (64 + T191.1))) (fun P206 : PM => (letb (nT T199 13 2) (fun T207 : TM => (letb (nI0 T199 I200) (fun I208 : IM => (letb (nJ0 T199 J201) (fun J209 : JM => (letb (nP0 T199 P206) (fun P210 : PM => (letb (up2 P210 a 53 (some (64 + T199.1))) (fun P214 : PM => (some (T207, I208, J209, P214))))))))))))))))))))))))))))))))))))))))))))))))))))))))))))))))))))))))))))))))))))))))))))))))))))))))))))))))))))))))))))))))))))))))))))))))))))))))))))))))))))))))))))))))))))))))))))))))))))))))))))))))))))))))))))))))))))))))))))))))))))))))))))))))))))))))))))))))))))))))))))))))))))))))))
set_option maxRecDepth 100000 in
set_option maxHeartbeats 4000000 in
theorem ok_X12_init {E : GE} {T : TM} {I : IM} {J : JM} {P : PM} {a : Nat} {x : TM × IM × JM × PM} (ha : IS T a 12) (hF : F_X12_init T I J P a = some x) : CtrP E (Mono T x.1) mX12_init 1 22 1480 [.ref a] T I J P none x.1 x.2.1 x.2.2.1 x.2.2.2 := by
  unfold F_X12_init at hF
  refine ctrP_intro (by decide) (Nat.le_of_ble_eq_true rfl) ?_
  refine r_sub (ls' := [(0, .ref a)]) [0] rfl ?_
  refine r_aload_n dX12_init_0 rfl rfl ?_
  refine r_objInit kw_916 ⟨Nat.le_of_ble_eq_true rfl, Nat.le_of_ble_eq_true rfl⟩ kw_26 kw_27 dX12_init_1 ?_
  refine r_aload_n dX12_init_4 rfl rfl ?_
  refine r_bipush (v := 24) dX12_init_5 (by decide) ?_
  refine r_newa (t0 := 0) (at_ := .int) (ty := .int) (k := 13) (n := 24) rfl (Or.inl ⟨rfl, rfl⟩) kw_93 (by decide) (by decide) (by decide) ⟨by show _ ≤ 22; omega, by show _ ≤ 1480; omega⟩ dX12_init_7 ?_
  refine r_letT hF (fun T1 eT1 hF => ?_)
  refine r_letI hF (fun I2 hF => ?_)
  refine r_letJ hF (fun J3 hF => ?_)
  refine r_letP hF (fun P4 eP4 hF => ?_)
  have m5 : Mono T T1 := by rw [eT1]; exact (Mono.rf).new
  have i6 : IS T1 (64 + T.1) 13 := by rw [eT1]; exact IS.fresh
  have l7 : T1.2.2 (64 + T.1) = 24 := by rw [eT1]; exact va_up_self _ _ _
  refine r_putP lk_X12_7 (Or.inr ⟨rfl, rfl⟩) (m5 _ _ ha) (fun _ => rfl) (fun _ => rfl) dX12_init_9 ?_
  refine r_letP hF (fun P8 eP8 hF => ?_)
  refine r_aload_n dX12_init_12 rfl rfl ?_
  refine r_bipush (v := 6) dX12_init_13 (by decide) ?_
  refine r_newa (t0 := 0) (at_ := .int) (ty := .int) (k := 13) (n := 6) rfl (Or.inl ⟨rfl, rfl⟩) kw_93 (by decide) (by decide) (by decide) ⟨by show _ ≤ 22; omega, by show _ ≤ 1480; omega⟩ dX12_init_15 ?_
  refine r_letT hF (fun T9 eT9 hF => ?_)
  refine r_letI hF (fun I10 hF => ?_)
  refine r_letJ hF (fun J11 hF => ?_)
  refine r_letP hF (fun P12 eP12 hF => ?_)
  have m13 : Mono T T9 := by rw [eT9]; exact (m5).new
  have i14 : IS T9 (64 + T1.1) 13 := by rw [eT9]; exact IS.fresh
  have l15 : T9.2.2 (64 + T1.1) = 6 := by rw [eT9]; exact va_up_self _ _ _
  refine r_dup dX12_init_17 rfl ?_
  refine r_iconst (v := 0) dX12_init_18 (by decide) ?_
  refine r_bipush (v := 16) dX12_init_19 (by decide) ?_
  refine r_iast i14 (by rw [l15]; decide) dX12_init_21 ?_
  refine r_letI hF (fun I16 hF => ?_)
  refine r_dup dX12_init_22 rfl ?_
  refine r_iconst (v := 1) dX12_init_23 (by decide) ?_
  refine r_bipush (v := 8) dX12_init_24 (by decide) ?_
  refine r_iast i14 (by rw [l15]; decide) dX12_init_26 ?_
  refine r_letI hF (fun I17 hF => ?_)
  refine r_dup dX12_init_27 rfl ?_
  refine r_iconst (v := 2) dX12_init_28 (by decide) ?_
  refine r_bipush (v := 24) dX12_init_29 (by decide) ?_
  refine r_iast i14 (by rw [l15]; decide) dX12_init_31 ?_
  refine r_letI hF (fun I18 hF => ?_)
  refine r_dup dX12_init_32 rfl ?_
  refine r_iconst (v := 3) dX12_init_33 (by decide) ?_
  refine r_bipush (v := 20) dX12_init_34 (by decide) ?_
  refine r_iast i14 (by rw [l15]; decide) dX12_init_36 ?_
  refine r_letI hF (fun I19 hF => ?_)
  refine r_dup dX12_init_37 rfl ?_
  refine r_iconst (v := 4) dX12_init_38 (by decide) ?_
  refine r_bipush (v := 12) dX12_init_39 (by decide) ?_
  refine r_iast i14 (by rw [l15]; decide) dX12_init_41 ?_
  refine r_letI hF (fun I20 hF => ?_)
  refine r_dup dX12_init_42 rfl ?_
  refine r_iconst (v := 5) dX12_init_43 (by decide) ?_
  refine r_bipush (v := 32) dX12_init_44 (by decide) ?_
  refine r_iast i14 (by rw [l15]; decide) dX12_init_46 ?_
  refine r_letI hF (fun I21 hF => ?_)
  refine r_putP lk_X12_13 (Or.inr ⟨rfl, rfl⟩) (m13 _ _ ha) (fun _ => rfl) (fun _ => rfl) dX12_init_47 ?_
  refine r_letP hF (fun P22 eP22 hF => ?_)
  refine r_aload_n dX12_init_50 rfl rfl ?_
  refine r_iconst (v := 5) dX12_init_51 (by decide) ?_
  refine r_newa (t0 := 0) (at_ := .int) (ty := .int) (k := 13) (n := 5) rfl (Or.inl ⟨rfl, rfl⟩) kw_93 (by decide) (by decide) (by decide) ⟨by show _ ≤ 22; omega, by show _ ≤ 1480; omega⟩ dX12_init_52 ?_
  refine r_letT hF (fun T23 eT23 hF => ?_)
  refine r_letI hF (fun I24 hF => ?_)
  refine r_letJ hF (fun J25 hF => ?_)
  refine r_letP hF (fun P26 eP26 hF => ?_)
  have m27 : Mono T T23 := by rw [eT23]; exact (m13).new
  have i28 : IS T23 (64 + T9.1) 13 := by rw [eT23]; exact IS.fresh
  have l29 : T23.2.2 (64 + T9.1) = 5 := by rw [eT23]; exact va_up_self _ _ _
  refine r_dup dX12_init_54 rfl ?_
  refine r_iconst (v := 0) dX12_init_55 (by decide) ?_
  refine r_iconst (v := 0) dX12_init_56 (by decide) ?_
  refine r_iast i28 (by rw [l29]; decide) dX12_init_57 ?_
  refine r_letI hF (fun I30 hF => ?_)
  refine r_dup dX12_init_58 rfl ?_
  refine r_iconst (v := 1) dX12_init_59 (by decide) ?_
  refine r_iconst (v := 0) dX12_init_60 (by decide) ?_
  refine r_iast i28 (by rw [l29]; decide) dX12_init_61 ?_
  refine r_letI hF (fun I31 hF => ?_)
  refine r_dup dX12_init_62 rfl ?_
  refine r_iconst (v := 2) dX12_init_63 (by decide) ?_
  refine r_iconst (v := 1) dX12_init_64 (by decide) ?_
  refine r_iast i28 (by rw [l29]; decide) dX12_init_65 ?_
  refine r_letI hF (fun I32 hF => ?_)
  refine r_dup dX12_init_66 rfl ?_
  refine r_iconst (v := 3) dX12_init_67 (by decide) ?_
  refine r_iconst (v := 0) dX12_init_68 (by decide) ?_
  refine r_iast i28 (by rw [l29]; decide) dX12_init_69 ?_
  refine r_letI hF (fun I33 hF => ?_)
  refine r_dup dX12_init_70 rfl ?_
  refine r_iconst (v := 4) dX12_init_71 (by decide) ?_
  refine r_iconst (v := 0) dX12_init_72 (by decide) ?_
  refine r_iast i28 (by rw [l29]; decide) dX12_init_73 ?_
  refine r_letI hF (fun I34 hF => ?_)
  refine r_putP lk_X12_16 (Or.inr ⟨rfl, rfl⟩) (m27 _ _ ha) (fun _ => rfl) (fun _ => rfl) dX12_init_74 ?_
  refine r_letP hF (fun P35 eP35 hF => ?_)
  refine r_aload_n dX12_init_77 rfl rfl ?_
  refine r_bipush (v := 10) dX12_init_78 (by decide) ?_
  refine r_newa (t0 := 0) (at_ := .int) (ty := .int) (k := 13) (n := 10) rfl (Or.inl ⟨rfl, rfl⟩) kw_93 (by decide) (by decide) (by decide) ⟨by show _ ≤ 22; omega, by show _ ≤ 1480; omega⟩ dX12_init_80 ?_
  refine r_letT hF (fun T36 eT36 hF => ?_)
  refine r_letI hF (fun I37 hF => ?_)
  refine r_letJ hF (fun J38 hF => ?_)
  refine r_letP hF (fun P39 eP39 hF => ?_)
  have m40 : Mono T T36 := by rw [eT36]; exact (m27).new
  have i41 : IS T36 (64 + T23.1) 13 := by rw [eT36]; exact IS.fresh
  have l42 : T36.2.2 (64 + T23.1) = 10 := by rw [eT36]; exact va_up_self _ _ _
  refine r_dup dX12_init_82 rfl ?_
  refine r_iconst (v := 0) dX12_init_83 (by decide) ?_
  refine r_iconst (v := 0) dX12_init_84 (by decide) ?_
  refine r_iast i41 (by rw [l42]; decide) dX12_init_85 ?_
  refine r_letI hF (fun I43 hF => ?_)
  refine r_dup dX12_init_86 rfl ?_
  refine r_iconst (v := 1) dX12_init_87 (by decide) ?_
  refine r_sipush (v := 174) dX12_init_88 (by decide) ?_
  refine r_iast i41 (by rw [l42]; decide) dX12_init_91 ?_
  refine r_letI hF (fun I44 hF => ?_)
  refine r_dup dX12_init_92 rfl ?_
  refine r_iconst (v := 2) dX12_init_93 (by decide) ?_
  refine r_sipush (v := 342) dX12_init_94 (by decide) ?_
  refine r_iast i41 (by rw [l42]; decide) dX12_init_97 ?_
  refine r_letI hF (fun I45 hF => ?_)
  refine r_dup dX12_init_98 rfl ?_
  refine r_iconst (v := 3) dX12_init_99 (by decide) ?_
  refine r_sipush (v := 500) dX12_init_100 (by decide) ?_
  refine r_iast i41 (by rw [l42]; decide) dX12_init_103 ?_
  refine r_letI hF (fun I46 hF => ?_)
  refine r_dup dX12_init_104 rfl ?_
  refine r_iconst (v := 4) dX12_init_105 (by decide) ?_
  refine r_sipush (v := 643) dX12_init_106 (by decide) ?_
  refine r_iast i41 (by rw [l42]; decide) dX12_init_109 ?_
  refine r_letI hF (fun I47 hF => ?_)
  refine r_dup dX12_init_110 rfl ?_
  refine r_iconst (v := 5) dX12_init_111 (by decide) ?_
  refine r_sipush (v := 766) dX12_init_112 (by decide) ?_
  refine r_iast i41 (by rw [l42]; decide) dX12_init_115 ?_
  refine r_letI hF (fun I48 hF => ?_)
  refine r_dup dX12_init_116 rfl ?_
  refine r_bipush (v := 6) dX12_init_117 (by decide) ?_
  refine r_sipush (v := 866) dX12_init_119 (by decide) ?_
  refine r_iast i41 (by rw [l42]; decide) dX12_init_122 ?_
  refine r_letI hF (fun I49 hF => ?_)
  refine r_dup dX12_init_123 rfl ?_
  refine r_bipush (v := 7) dX12_init_124 (by decide) ?_
  refine r_sipush (v := 940) dX12_init_126 (by decide) ?_
  refine r_iast i41 (by rw [l42]; decide) dX12_init_129 ?_
  refine r_letI hF (fun I50 hF => ?_)
  refine r_dup dX12_init_130 rfl ?_
  refine r_bipush (v := 8) dX12_init_131 (by decide) ?_
  refine r_sipush (v := 985) dX12_init_133 (by decide) ?_
  refine r_iast i41 (by rw [l42]; decide) dX12_init_136 ?_
  refine r_letI hF (fun I51 hF => ?_)
  refine r_dup dX12_init_137 rfl ?_
  refine r_bipush (v := 9) dX12_init_138 (by decide) ?_
  refine r_sipush (v := 1000) dX12_init_140 (by decide) ?_
  refine r_iast i41 (by rw [l42]; decide) dX12_init_143 ?_
  refine r_letI hF (fun I52 hF => ?_)
  refine r_putP lk_X12_19 (Or.inr ⟨rfl, rfl⟩) (m40 _ _ ha) (fun _ => rfl) (fun _ => rfl) dX12_init_144 ?_
  refine r_letP hF (fun P53 eP53 hF => ?_)
  refine r_aload_n dX12_init_147 rfl rfl ?_
  refine r_iconst (v := 1) dX12_init_148 (by decide) ?_
  refine r_putI lk_X12_22 (Or.inl rfl) (m40 _ _ ha) rfl rfl dX12_init_149 ?_
  refine r_letI hF (fun I54 hF => ?_)
  refine r_aload_n dX12_init_152 rfl rfl ?_
  refine r_bipush (v := 8) dX12_init_153 (by decide) ?_
  refine r_newa (t0 := 0) (at_ := .int) (ty := .int) (k := 13) (n := 8) rfl (Or.inl ⟨rfl, rfl⟩) kw_93 (by decide) (by decide) (by decide) ⟨by show _ ≤ 22; omega, by show _ ≤ 1480; omega⟩ dX12_init_155 ?_
  refine r_letT hF (fun T55 eT55 hF => ?_)
  refine r_letI hF (fun I56 hF => ?_)
  refine r_letJ hF (fun J57 hF => ?_)
  refine r_letP hF (fun P58 eP58 hF => ?_)
  have m59 : Mono T T55 := by rw [eT55]; exact (m40).new
  have i60 : IS T55 (64 + T36.1) 13 := by rw [eT55]; exact IS.fresh
  have l61 : T55.2.2 (64 + T36.1) = 8 := by rw [eT55]; exact va_up_self _ _ _
  refine r_dup dX12_init_157 rfl ?_
  refine r_iconst (v := 0) dX12_init_158 (by decide) ?_
  refine r_iconst (v := (-1)) dX12_init_159 (by decide) ?_
  refine r_iast i60 (by rw [l61]; decide) dX12_init_160 ?_
  refine r_letI hF (fun I62 hF => ?_)
  refine r_dup dX12_init_161 rfl ?_
  refine r_iconst (v := 1) dX12_init_162 (by decide) ?_
  refine r_iconst (v := 0) dX12_init_163 (by decide) ?_
  refine r_iast i60 (by rw [l61]; decide) dX12_init_164 ?_
  refine r_letI hF (fun I63 hF => ?_)
  refine r_dup dX12_init_165 rfl ?_
  refine r_iconst (v := 2) dX12_init_166 (by decide) ?_
  refine r_iconst (v := 0) dX12_init_167 (by decide) ?_
  refine r_iast i60 (by rw [l61]; decide) dX12_init_168 ?_
  refine r_letI hF (fun I64 hF => ?_)
  refine r_dup dX12_init_169 rfl ?_
  refine r_iconst (v := 3) dX12_init_170 (by decide) ?_
  refine r_iconst (v := 0) dX12_init_171 (by decide) ?_
  refine r_iast i60 (by rw [l61]; decide) dX12_init_172 ?_
  refine r_letI hF (fun I65 hF => ?_)
  refine r_dup dX12_init_173 rfl ?_
  refine r_iconst (v := 4) dX12_init_174 (by decide) ?_
  refine r_iconst (v := 0) dX12_init_175 (by decide) ?_
  refine r_iast i60 (by rw [l61]; decide) dX12_init_176 ?_
  refine r_letI hF (fun I66 hF => ?_)
  refine r_dup dX12_init_177 rfl ?_
  refine r_iconst (v := 5) dX12_init_178 (by decide) ?_
  refine r_iconst (v := 0) dX12_init_179 (by decide) ?_
  refine r_iast i60 (by rw [l61]; decide) dX12_init_180 ?_
  refine r_letI hF (fun I67 hF => ?_)
  refine r_dup dX12_init_181 rfl ?_
  refine r_bipush (v := 6) dX12_init_182 (by decide) ?_
  refine r_iconst (v := 0) dX12_init_184 (by decide) ?_
  refine r_iast i60 (by rw [l61]; decide) dX12_init_185 ?_
  refine r_letI hF (fun I68 hF => ?_)
  refine r_dup dX12_init_186 rfl ?_
  refine r_bipush (v := 7) dX12_init_187 (by decide) ?_
  refine r_iconst (v := 0) dX12_init_189 (by decide) ?_
  refine r_iast i60 (by rw [l61]; decide) dX12_init_190 ?_
  refine r_letI hF (fun I69 hF => ?_)
  refine r_putP lk_X12_26 (Or.inr ⟨rfl, rfl⟩) (m59 _ _ ha) (fun _ => rfl) (fun _ => rfl) dX12_init_191 ?_
  refine r_letP hF (fun P70 eP70 hF => ?_)
  refine r_aload_n dX12_init_194 rfl rfl ?_
  refine r_sipush (v := 200) dX12_init_195 (by decide) ?_
  refine r_newa (t0 := 0) (at_ := .int) (ty := .int) (k := 13) (n := 200) rfl (Or.inl ⟨rfl, rfl⟩) kw_93 (by decide) (by decide) (by decide) ⟨by show _ ≤ 22; omega, by show _ ≤ 1480; omega⟩ dX12_init_198 ?_
  refine r_letT hF (fun T71 eT71 hF => ?_)
  refine r_letI hF (fun I72 hF => ?_)
  refine r_letJ hF (fun J73 hF => ?_)
  refine r_letP hF (fun P74 eP74 hF => ?_)
  have m75 : Mono T T71 := by rw [eT71]; exact (m59).new
  have i76 : IS T71 (64 + T55.1) 13 := by rw [eT71]; exact IS.fresh
  have l77 : T71.2.2 (64 + T55.1) = 200 := by rw [eT71]; exact va_up_self _ _ _
  refine r_putP lk_X12_29 (Or.inr ⟨rfl, rfl⟩) (m75 _ _ ha) (fun _ => rfl) (fun _ => rfl) dX12_init_200 ?_
  refine r_letP hF (fun P78 eP78 hF => ?_)
  refine r_aload_n dX12_init_203 rfl rfl ?_
  refine r_bipush (v := 24) dX12_init_204 (by decide) ?_
  refine r_newa (t0 := 0) (at_ := .int) (ty := .int) (k := 13) (n := 24) rfl (Or.inl ⟨rfl, rfl⟩) kw_93 (by decide) (by decide) (by decide) ⟨by show _ ≤ 22; omega, by show _ ≤ 1480; omega⟩ dX12_init_206 ?_
  refine r_letT hF (fun T79 eT79 hF => ?_)
  refine r_letI hF (fun I80 hF => ?_)
  refine r_letJ hF (fun J81 hF => ?_)
  refine r_letP hF (fun P82 eP82 hF => ?_)
  have m83 : Mono T T79 := by rw [eT79]; exact (m75).new
  have i84 : IS T79 (64 + T71.1) 13 := by rw [eT79]; exact IS.fresh
  have l85 : T79.2.2 (64 + T71.1) = 24 := by rw [eT79]; exact va_up_self _ _ _
  refine r_putP lk_X12_32 (Or.inr ⟨rfl, rfl⟩) (m83 _ _ ha) (fun _ => rfl) (fun _ => rfl) dX12_init_208 ?_
  refine r_letP hF (fun P86 eP86 hF => ?_)
  refine r_aload_n dX12_init_211 rfl rfl ?_
  refine r_bipush (v := 6) dX12_init_212 (by decide) ?_
  refine r_newa (t0 := 0) (at_ := .int) (ty := .int) (k := 13) (n := 6) rfl (Or.inl ⟨rfl, rfl⟩) kw_93 (by decide) (by decide) (by decide) ⟨by show _ ≤ 22; omega, by show _ ≤ 1480; omega⟩ dX12_init_214 ?_
  refine r_letT hF (fun T87 eT87 hF => ?_)
  refine r_letI hF (fun I88 hF => ?_)
  refine r_letJ hF (fun J89 hF => ?_)
  refine r_letP hF (fun P90 eP90 hF => ?_)
  have m91 : Mono T T87 := by rw [eT87]; exact (m83).new
  have i92 : IS T87 (64 + T79.1) 13 := by rw [eT87]; exact IS.fresh
  have l93 : T87.2.2 (64 + T79.1) = 6 := by rw [eT87]; exact va_up_self _ _ _
  refine r_putP lk_X12_35 (Or.inr ⟨rfl, rfl⟩) (m91 _ _ ha) (fun _ => rfl) (fun _ => rfl) dX12_init_216 ?_
  refine r_letP hF (fun P94 eP94 hF => ?_)
  refine r_aload_n dX12_init_219 rfl rfl ?_
  refine r_iconst (v := 5) dX12_init_220 (by decide) ?_
  refine r_newa (t0 := 0) (at_ := .int) (ty := .int) (k := 13) (n := 5) rfl (Or.inl ⟨rfl, rfl⟩) kw_93 (by decide) (by decide) (by decide) ⟨by show _ ≤ 22; omega, by show _ ≤ 1480; omega⟩ dX12_init_221 ?_
  refine r_letT hF (fun T95 eT95 hF => ?_)
  refine r_letI hF (fun I96 hF => ?_)
  refine r_letJ hF (fun J97 hF => ?_)
  refine r_letP hF (fun P98 eP98 hF => ?_)
  have m99 : Mono T T95 := by rw [eT95]; exact (m91).new
  have i100 : IS T95 (64 + T87.1) 13 := by rw [eT95]; exact IS.fresh
  have l101 : T95.2.2 (64 + T87.1) = 5 := by rw [eT95]; exact va_up_self _ _ _
  refine r_putP lk_X12_38 (Or.inr ⟨rfl, rfl⟩) (m99 _ _ ha) (fun _ => rfl) (fun _ => rfl) dX12_init_223 ?_
  refine r_letP hF (fun P102 eP102 hF => ?_)
  refine r_aload_n dX12_init_226 rfl rfl ?_
  refine r_sipush (v := 400) dX12_init_227 (by decide) ?_
  refine r_newa (t0 := 0) (at_ := .int) (ty := .int) (k := 13) (n := 400) rfl (Or.inl ⟨rfl, rfl⟩) kw_93 (by decide) (by decide) (by decide) ⟨by show _ ≤ 22; omega, by show _ ≤ 1480; omega⟩ dX12_init_230 ?_
  refine r_letT hF (fun T103 eT103 hF => ?_)
  refine r_letI hF (fun I104 hF => ?_)
  refine r_letJ hF (fun J105 hF => ?_)
  refine r_letP hF (fun P106 eP106 hF => ?_)
  have m107 : Mono T T103 := by rw [eT103]; exact (m99).new
  have i108 : IS T103 (64 + T95.1) 13 := by rw [eT103]; exact IS.fresh
  have l109 : T103.2.2 (64 + T95.1) = 400 := by rw [eT103]; exact va_up_self _ _ _
  refine r_putP lk_X12_41 (Or.inr ⟨rfl, rfl⟩) (m107 _ _ ha) (fun _ => rfl) (fun _ => rfl) dX12_init_232 ?_
  refine r_letP hF (fun P110 eP110 hF => ?_)
  refine r_aload_n dX12_init_235 rfl rfl ?_
  refine r_sipush (v := 400) dX12_init_236 (by decide) ?_
  refine r_newa (t0 := 0) (at_ := .int) (ty := .int) (k := 13) (n := 400) rfl (Or.inl ⟨rfl, rfl⟩) kw_93 (by decide) (by decide) (by decide) ⟨by show _ ≤ 22; omega, by show _ ≤ 1480; omega⟩ dX12_init_239 ?_
  refine r_letT hF (fun T111 eT111 hF => ?_)
  refine r_letI hF (fun I112 hF => ?_)
  refine r_letJ hF (fun J113 hF => ?_)
  refine r_letP hF (fun P114 eP114 hF => ?_)
  have m115 : Mono T T111 := by rw [eT111]; exact (m107).new
  have i116 : IS T111 (64 + T103.1) 13 := by rw [eT111]; exact IS.fresh
  have l117 : T111.2.2 (64 + T103.1) = 400 := by rw [eT111]; exact va_up_self _ _ _
  refine r_putP lk_X12_44 (Or.inr ⟨rfl, rfl⟩) (m115 _ _ ha) (fun _ => rfl) (fun _ => rfl) dX12_init_241 ?_
  refine r_letP hF (fun P118 eP118 hF => ?_)
  refine r_aload_n dX12_init_244 rfl rfl ?_
  refine r_bipush (v := 60) dX12_init_245 (by decide) ?_
  refine r_newa (t0 := 0) (at_ := .int) (ty := .int) (k := 13) (n := 60) rfl (Or.inl ⟨rfl, rfl⟩) kw_93 (by decide) (by decide) (by decide) ⟨by show _ ≤ 22; omega, by show _ ≤ 1480; omega⟩ dX12_init_247 ?_
  refine r_letT hF (fun T119 eT119 hF => ?_)
  refine r_letI hF (fun I120 hF => ?_)
  refine r_letJ hF (fun J121 hF => ?_)
  refine r_letP hF (fun P122 eP122 hF => ?_)
  have m123 : Mono T T119 := by rw [eT119]; exact (m115).new
  have i124 : IS T119 (64 + T111.1) 13 := by rw [eT119]; exact IS.fresh
  have l125 : T119.2.2 (64 + T111.1) = 60 := by rw [eT119]; exact va_up_self _ _ _
  refine r_putP lk_X12_47 (Or.inr ⟨rfl, rfl⟩) (m123 _ _ ha) (fun _ => rfl) (fun _ => rfl) dX12_init_249 ?_
  refine r_letP hF (fun P126 eP126 hF => ?_)
  refine r_aload_n dX12_init_252 rfl rfl ?_
  refine r_bipush (v := 60) dX12_init_253 (by decide) ?_
  refine r_newa (t0 := 0) (at_ := .int) (ty := .int) (k := 13) (n := 60) rfl (Or.inl ⟨rfl, rfl⟩) kw_93 (by decide) (by decide) (by decide) ⟨by show _ ≤ 22; omega, by show _ ≤ 1480; omega⟩ dX12_init_255 ?_
  refine r_letT hF (fun T127 eT127 hF => ?_)
  refine r_letI hF (fun I128 hF => ?_)
  refine r_letJ hF (fun J129 hF => ?_)
  refine r_letP hF (fun P130 eP130 hF => ?_)
  have m131 : Mono T T127 := by rw [eT127]; exact (m123).new
  have i132 : IS T127 (64 + T119.1) 13 := by rw [eT127]; exact IS.fresh
  have l133 : T127.2.2 (64 + T119.1) = 60 := by rw [eT127]; exact va_up_self _ _ _
  refine r_putP lk_X12_50 (Or.inr ⟨rfl, rfl⟩) (m131 _ _ ha) (fun _ => rfl) (fun _ => rfl) dX12_init_257 ?_
  refine r_letP hF (fun P134 eP134 hF => ?_)
  refine r_aload_n dX12_init_260 rfl rfl ?_
  refine r_iconst (v := 4) dX12_init_261 (by decide) ?_
  refine r_newa (t0 := 0) (at_ := .int) (ty := .int) (k := 13) (n := 4) rfl (Or.inl ⟨rfl, rfl⟩) kw_93 (by decide) (by decide) (by decide) ⟨by show _ ≤ 22; omega, by show _ ≤ 1480; omega⟩ dX12_init_262 ?_
  refine r_letT hF (fun T135 eT135 hF => ?_)
  refine r_letI hF (fun I136 hF => ?_)
  refine r_letJ hF (fun J137 hF => ?_)
  refine r_letP hF (fun P138 eP138 hF => ?_)
  have m139 : Mono T T135 := by rw [eT135]; exact (m131).new
  have i140 : IS T135 (64 + T127.1) 13 := by rw [eT135]; exact IS.fresh
  have l141 : T135.2.2 (64 + T127.1) = 4 := by rw [eT135]; exact va_up_self _ _ _
  refine r_dup dX12_init_264 rfl ?_
  refine r_iconst (v := 0) dX12_init_265 (by decide) ?_
  refine r_iconst (v := (-1)) dX12_init_266 (by decide) ?_
  refine r_iast i140 (by rw [l141]; decide) dX12_init_267 ?_
  refine r_letI hF (fun I142 hF => ?_)
  refine r_dup dX12_init_268 rfl ?_
  refine r_iconst (v := 1) dX12_init_269 (by decide) ?_
  refine r_iconst (v := (-1)) dX12_init_270 (by decide) ?_
  refine r_iast i140 (by rw [l141]; decide) dX12_init_271 ?_
  refine r_letI hF (fun I143 hF => ?_)
  refine r_dup dX12_init_272 rfl ?_
  refine r_iconst (v := 2) dX12_init_273 (by decide) ?_
  refine r_iconst (v := (-1)) dX12_init_274 (by decide) ?_
  refine r_iast i140 (by rw [l141]; decide) dX12_init_275 ?_
  refine r_letI hF (fun I144 hF => ?_)
  refine r_dup dX12_init_276 rfl ?_
  refine r_iconst (v := 3) dX12_init_277 (by decide) ?_
  refine r_iconst (v := (-1)) dX12_init_278 (by decide) ?_
  refine r_iast i140 (by rw [l141]; decide) dX12_init_279 ?_
  refine r_letI hF (fun I145 hF => ?_)
  refine r_putP lk_X12_53 (Or.inr ⟨rfl, rfl⟩) (m139 _ _ ha) (fun _ => rfl) (fun _ => rfl) dX12_init_280 ?_
  refine r_letP hF (fun P146 eP146 hF => ?_)
  refine r_aload_n dX12_init_283 rfl rfl ?_
  refine r_iconst (v := 4) dX12_init_284 (by decide) ?_
  refine r_newa (t0 := 0) (at_ := .int) (ty := .int) (k := 13) (n := 4) rfl (Or.inl ⟨rfl, rfl⟩) kw_93 (by decide) (by decide) (by decide) ⟨by show _ ≤ 22; omega, by show _ ≤ 1480; omega⟩ dX12_init_285 ?_
  refine r_letT hF (fun T147 eT147 hF => ?_)
  refine r_letI hF (fun I148 hF => ?_)
  refine r_letJ hF (fun J149 hF => ?_)
  refine r_letP hF (fun P150 eP150 hF => ?_)
  have m151 : Mono T T147 := by rw [eT147]; exact (m139).new
  have i152 : IS T147 (64 + T135.1) 13 := by rw [eT147]; exact IS.fresh
  have l153 : T147.2.2 (64 + T135.1) = 4 := by rw [eT147]; exact va_up_self _ _ _
  refine r_putP lk_X12_56 (Or.inr ⟨rfl, rfl⟩) (m151 _ _ ha) (fun _ => rfl) (fun _ => rfl) dX12_init_287 ?_
  refine r_letP hF (fun P154 eP154 hF => ?_)
  refine r_aload_n dX12_init_290 rfl rfl ?_
  refine r_sipush (v := 160) dX12_init_291 (by decide) ?_
  refine r_newa (t0 := 0) (at_ := .long) (ty := .long) (k := 14) (n := 160) rfl (Or.inr (Or.inl ⟨rfl, rfl⟩)) kw_184 (by decide) (by decide) (by decide) ⟨by show _ ≤ 22; omega, by show _ ≤ 1480; omega⟩ dX12_init_294 ?_
  refine r_letT hF (fun T155 eT155 hF => ?_)
  refine r_letI hF (fun I156 hF => ?_)
  refine r_letJ hF (fun J157 hF => ?_)
  refine r_letP hF (fun P158 eP158 hF => ?_)
  have m159 : Mono T T155 := by rw [eT155]; exact (m151).new
  have i160 : IS T155 (64 + T147.1) 14 := by rw [eT155]; exact IS.fresh
  have l161 : T155.2.2 (64 + T147.1) = 160 := by rw [eT155]; exact va_up_self _ _ _
  refine r_putP lk_X12_59 (Or.inr ⟨rfl, rfl⟩) (m159 _ _ ha) (fun _ => rfl) (fun _ => rfl) dX12_init_296 ?_
  refine r_letP hF (fun P162 eP162 hF => ?_)
  refine r_aload_n dX12_init_299 rfl rfl ?_
  refine r_iconst (v := 4) dX12_init_300 (by decide) ?_
  refine r_newa (t0 := 0) (at_ := .int) (ty := .int) (k := 13) (n := 4) rfl (Or.inl ⟨rfl, rfl⟩) kw_93 (by decide) (by decide) (by decide) ⟨by show _ ≤ 22; omega, by show _ ≤ 1480; omega⟩ dX12_init_301 ?_
  refine r_letT hF (fun T163 eT163 hF => ?_)
  refine r_letI hF (fun I164 hF => ?_)
  refine r_letJ hF (fun J165 hF => ?_)
  refine r_letP hF (fun P166 eP166 hF => ?_)
  have m167 : Mono T T163 := by rw [eT163]; exact (m159).new
  have i168 : IS T163 (64 + T155.1) 13 := by rw [eT163]; exact IS.fresh
  have l169 : T163.2.2 (64 + T155.1) = 4 := by rw [eT163]; exact va_up_self _ _ _
  refine r_dup dX12_init_303 rfl ?_
  refine r_iconst (v := 0) dX12_init_304 (by decide) ?_
  refine r_iconst (v := (-1)) dX12_init_305 (by decide) ?_
  refine r_iast i168 (by rw [l169]; decide) dX12_init_306 ?_
  refine r_letI hF (fun I170 hF => ?_)
  refine r_dup dX12_init_307 rfl ?_
  refine r_iconst (v := 1) dX12_init_308 (by decide) ?_
  refine r_iconst (v := (-1)) dX12_init_309 (by decide) ?_
  refine r_iast i168 (by rw [l169]; decide) dX12_init_310 ?_
  refine r_letI hF (fun I171 hF => ?_)
  refine r_dup dX12_init_311 rfl ?_
  refine r_iconst (v := 2) dX12_init_312 (by decide) ?_
  refine r_iconst (v := (-1)) dX12_init_313 (by decide) ?_
  refine r_iast i168 (by rw [l169]; decide) dX12_init_314 ?_
  refine r_letI hF (fun I172 hF => ?_)
  refine r_dup dX12_init_315 rfl ?_
  refine r_iconst (v := 3) dX12_init_316 (by decide) ?_
  refine r_iconst (v := (-1)) dX12_init_317 (by decide) ?_
  refine r_iast i168 (by rw [l169]; decide) dX12_init_318 ?_
  refine r_letI hF (fun I173 hF => ?_)
  refine r_putP lk_X12_63 (Or.inr ⟨rfl, rfl⟩) (m167 _ _ ha) (fun _ => rfl) (fun _ => rfl) dX12_init_319 ?_
  refine r_letP hF (fun P174 eP174 hF => ?_)
  refine r_aload_n dX12_init_322 rfl rfl ?_
  refine r_iconst (v := 4) dX12_init_323 (by decide) ?_
  refine r_newa (t0 := 0) (at_ := .int) (ty := .int) (k := 13) (n := 4) rfl (Or.inl ⟨rfl, rfl⟩) kw_93 (by decide) (by decide) (by decide) ⟨by show _ ≤ 22; omega, by show _ ≤ 1480; omega⟩ dX12_init_324 ?_
  refine r_letT hF (fun T175 eT175 hF => ?_)
  refine r_letI hF (fun I176 hF => ?_)
  refine r_letJ hF (fun J177 hF => ?_)
  refine r_letP hF (fun P178 eP178 hF => ?_)
  have m179 : Mono T T175 := by rw [eT175]; exact (m167).new
  have i180 : IS T175 (64 + T163.1) 13 := by rw [eT175]; exact IS.fresh
  have l181 : T175.2.2 (64 + T163.1) = 4 := by rw [eT175]; exact va_up_self _ _ _
  refine r_putP lk_X12_66 (Or.inr ⟨rfl, rfl⟩) (m179 _ _ ha) (fun _ => rfl) (fun _ => rfl) dX12_init_326 ?_
  refine r_letP hF (fun P182 eP182 hF => ?_)
  refine r_aload_n dX12_init_329 rfl rfl ?_
  refine r_iconst (v := 4) dX12_init_330 (by decide) ?_
  refine r_newa (t0 := 0) (at_ := .int) (ty := .int) (k := 13) (n := 4) rfl (Or.inl ⟨rfl, rfl⟩) kw_93 (by decide) (by decide) (by decide) ⟨by show _ ≤ 22; omega, by show _ ≤ 1480; omega⟩ dX12_init_331 ?_
  refine r_letT hF (fun T183 eT183 hF => ?_)
  refine r_letI hF (fun I184 hF => ?_)
  refine r_letJ hF (fun J185 hF => ?_)
  refine r_letP hF (fun P186 eP186 hF => ?_)
  have m187 : Mono T T183 := by rw [eT183]; exact (m179).new
  have i188 : IS T183 (64 + T175.1) 13 := by rw [eT183]; exact IS.fresh
  have l189 : T183.2.2 (64 + T175.1) = 4 := by rw [eT183]; exact va_up_self _ _ _
  refine r_putP lk_X12_69 (Or.inr ⟨rfl, rfl⟩) (m187 _ _ ha) (fun _ => rfl) (fun _ => rfl) dX12_init_333 ?_
  refine r_letP hF (fun P190 eP190 hF => ?_)
  refine r_aload_n dX12_init_336 rfl rfl ?_
  refine r_bipush (v := 30) dX12_init_337 (by decide) ?_
  refine r_newa (t0 := 0) (at_ := .int) (ty := .int) (k := 13) (n := 30) rfl (Or.inl ⟨rfl, rfl⟩) kw_93 (by decide) (by decide) (by decide) ⟨by show _ ≤ 22; omega, by show _ ≤ 1480; omega⟩ dX12_init_339 ?_
  refine r_letT hF (fun T191 eT191 hF => ?_)
  refine r_letI hF (fun I192 hF => ?_)
  refine r_letJ hF (fun J193 hF => ?_)
  refine r_letP hF (fun P194 eP194 hF => ?_)
  have m195 : Mono T T191 := by rw [eT191]; exact (m187).new
  have i196 : IS T191 (64 + T183.1) 13 := by rw [eT191]; exact IS.fresh
  have l197 : T191.2.2 (64 + T183.1) = 30 := by rw [eT191]; exact va_up_self _ _ _
  refine r_putP lk_X12_72 (Or.inr ⟨rfl, rfl⟩) (m195 _ _ ha) (fun _ => rfl) (fun _ => rfl) dX12_init_341 ?_
  refine r_letP hF (fun P198 eP198 hF => ?_)
  refine r_aload_n dX12_init_344 rfl rfl ?_
  refine r_bipush (v := 60) dX12_init_345 (by decide) ?_
  refine r_newa (t0 := 0) (at_ := .int) (ty := .int) (k := 13) (n := 60) rfl (Or.inl ⟨rfl, rfl⟩) kw_93 (by decide) (by decide) (by decide) ⟨by show _ ≤ 22; omega, by show _ ≤ 1480; omega⟩ dX12_init_347 ?_
  refine r_letT hF (fun T199 eT199 hF => ?_)
  refine r_letI hF (fun I200 hF => ?_)
  refine r_letJ hF (fun J201 hF => ?_)
  refine r_letP hF (fun P202 eP202 hF => ?_)
  have m203 : Mono T T199 := by rw [eT199]; exact (m195).new
  have i204 : IS T199 (64 + T191.1) 13 := by rw [eT199]; exact IS.fresh
  have l205 : T199.2.2 (64 + T191.1) = 60 := by rw [eT199]; exact va_up_self _ _ _
  refine r_putP lk_X12_75 (Or.inr ⟨rfl, rfl⟩) (m203 _ _ ha) (fun _ => rfl) (fun _ => rfl) dX12_init_349 ?_
  refine r_letP hF (fun P206 eP206 hF => ?_)
  refine r_aload_n dX12_init_352 rfl rfl ?_
  refine r_iconst (v := 2) dX12_init_353 (by decide) ?_
  refine r_newa (t0 := 0) (at_ := .int) (ty := .int) (k := 13) (n := 2) rfl (Or.inl ⟨rfl, rfl⟩) kw_93 (by decide) (by decide) (by decide) ⟨by show _ ≤ 22; omega, by show _ ≤ 1480; omega⟩ dX12_init_354 ?_
  refine r_letT hF (fun T207 eT207 hF => ?_)
  refine r_letI hF (fun I208 hF => ?_)
  refine r_letJ hF (fun J209 hF => ?_)
  refine r_letP hF (fun P210 eP210 hF => ?_)
  have m211 : Mono T T207 := by rw [eT207]; exact (m203).new
  have i212 : IS T207 (64 + T199.1) 13 := by rw [eT207]; exact IS.fresh
  have l213 : T207.2.2 (64 + T199.1) = 2 := by rw [eT207]; exact va_up_self _ _ _
  refine r_putP lk_X12_78 (Or.inr ⟨rfl, rfl⟩) (m211 _ _ ha) (fun _ => rfl) (fun _ => rfl) dX12_init_356 ?_
  refine r_letP hF (fun P214 eP214 hF => ?_)
  obtain rfl := Option.some.inj hF
  exact p_return rfl dX12_init_359 m211 (by omega) (by omega)
