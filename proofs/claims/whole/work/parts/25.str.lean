/-! the texts' own methods: length, charAt -/
theorem ok_J3_checkIndex {E : GE} {T : TM} {I : IM} {J : JM} {P : PM} {i n : Int32} {f : Value} (hf : f = .null ∨ f = .ref 22) (h0 : ¬ i < 0) (h1 : i < n) : Ctr E mJ3_checkIndex_8e157 0 0 0 [.int i, .int n, f] T I J P (some (.int i)) T I J P := by
  rcases hf with rfl | rfl
  all_goals
    refine ctr_intro rfl (by decide) (Nat.le_of_ble_eq_true rfl) ?_
    refine r_iload_n dJ3_checkIndex_8e157_0 rfl rfl ?_
    refine r_if_lt (tgt := 9) dJ3_checkIndex_8e157_1 (by decide) (fun h => absurd h h0) (fun h => ?_)
    refine r_iload_n dJ3_checkIndex_8e157_4 rfl rfl ?_
    refine r_iload_n dJ3_checkIndex_8e157_5 rfl rfl ?_
    refine r_icmp_lt (tgt := 16) dJ3_checkIndex_8e157_6 (by decide) (fun h => ?_) (fun h => absurd h1 h)
    refine r_iload_n dJ3_checkIndex_8e157_16 rfl rfl ?_
    exact r_ireturn rfl rfl dJ3_checkIndex_8e157_17 (Nat.le_of_ble_eq_true rfl) (Nat.le_of_ble_eq_true rfl)
theorem ok_J0_checkIndex {E : GE} {T : TM} {I : IM} {J : JM} {P : PM} {i n : Int32} (h0 : ¬ i < 0) (h1 : i < n) : Ctr E mJ0_checkIndex_df160 1 0 0 [.int i, .int n] T I J P none T I J P := by
  refine ctr_intro rfl (by decide) (Nat.le_of_ble_eq_true rfl) ?_
  refine r_iload_n dJ0_checkIndex_df160_0 rfl rfl ?_
  refine r_iload_n dJ0_checkIndex_df160_1 rfl rfl ?_
  refine r_fmt kw_318 dJ0_checkIndex_df160_2 ?_ ?_
  · refine c_static_i (As := [.int i, .int n, .null]) mi_J3_checkIndex_8e157 kw_321 kw_320 (ok_J3_checkIndex (Or.inl rfl) h0 h1) rfl rfl (Nat.le_of_ble_eq_true rfl) ⟨Nat.le_of_ble_eq_true rfl, Nat.le_of_ble_eq_true rfl⟩ ⟨Nat.le_of_ble_eq_true rfl, Nat.le_of_ble_eq_true rfl⟩ dJ0_checkIndex_df160_5 ?_
    refine r_pop dJ0_checkIndex_df160_8 rfl ?_
    exact r_return rfl dJ0_checkIndex_df160_9 (Nat.le_of_ble_eq_true rfl) (Nat.le_of_ble_eq_true rfl)
  · refine c_static_i (As := [.int i, .int n, .ref 22]) mi_J3_checkIndex_8e157 kw_321 kw_320 (ok_J3_checkIndex (Or.inr rfl) h0 h1) rfl rfl (Nat.le_of_ble_eq_true rfl) ⟨Nat.le_of_ble_eq_true rfl, Nat.le_of_ble_eq_true rfl⟩ ⟨Nat.le_of_ble_eq_true rfl, Nat.le_of_ble_eq_true rfl⟩ dJ0_checkIndex_df160_5 ?_
    refine r_pop dJ0_checkIndex_df160_8 rfl ?_
    exact r_return rfl dJ0_checkIndex_df160_9 (Nat.le_of_ble_eq_true rfl) (Nat.le_of_ble_eq_true rfl)
/-- the char at a place -/
def strCh (k : Nat) (j : Int32) : Int32 := (Int32.toUInt32 ((strBy.getD k []).getD j.toNatClampNeg 0 &&& 255) % 65536).toInt32
theorem ok_J1_charAt {E : GE} {T : TM} {I : IM} {J : JM} {P : PM} {k : Nat} {j : Int32} (hk : k < 15) (hj : inb j (strLn.getD k 0) = true) (h0 : ¬ j < 0) (h1 : j < nI (strLn.getD k 0)) : Ctr E mJ1_charAt_3b067 2 0 0 [.ref (30 + k), .int j] T I J P (some (.int (strCh k j))) T I J P := by
  refine ctr_intro rfl (by decide) (Nat.le_of_ble_eq_true rfl) ?_
  refine r_iload_n dJ1_charAt_3b067_0 rfl rfl ?_
  refine r_aload_n dJ1_charAt_3b067_1 rfl rfl ?_
  refine r_strL hk dJ1_charAt_3b067_2 ?_
  refine c_static_v (As := [.int j, .int (nI (strLn.getD k 0))]) mi_J0_checkIndex_df160 kw_316 kw_315 (ok_J0_checkIndex h0 h1) rfl rfl (Nat.le_of_ble_eq_true rfl) ⟨Nat.le_of_ble_eq_true rfl, Nat.le_of_ble_eq_true rfl⟩ ⟨Nat.le_of_ble_eq_true rfl, Nat.le_of_ble_eq_true rfl⟩ dJ1_charAt_3b067_3 ?_
  refine r_aload_n dJ1_charAt_3b067_6 rfl rfl ?_
  refine r_iload_n dJ1_charAt_3b067_7 rfl rfl ?_
  refine r_strB hk hj dJ1_charAt_3b067_8 ?_
  refine r_sipush (v := 255) dJ1_charAt_3b067_9 (by decide) ?_
  refine r_iand dJ1_charAt_3b067_12 ?_
  refine r_i2c dJ1_charAt_3b067_13 ?_
  exact r_ireturn rfl (pk_nc _) dJ1_charAt_3b067_14 (Nat.le_of_ble_eq_true rfl) (Nat.le_of_ble_eq_true rfl)
theorem ok_J0_coder {E : GE} {T : TM} {I : IM} {J : JM} {P : PM} {k : Nat} (hk : k < 15) : Ctr E mJ0_coder_7d493 0 0 0 [.ref k] T I J P (some (.int 0)) T I J P := by
  refine ctr_intro rfl (by decide) (Nat.le_of_ble_eq_true rfl) ?_
  refine r_compact kw_298 dJ0_coder_7d493_0 ?_
  refine r_if_eq (tgt := 13) dJ0_coder_7d493_3 (by decide) (fun h => absurd h (by decide)) (fun h => ?_)
  refine r_aload_n dJ0_coder_7d493_6 rfl rfl ?_
  refine r_strC hk kw_1475 dJ0_coder_7d493_7 ?_
  refine r_goto (tgt := 14) dJ0_coder_7d493_10 (by decide) ?_
  exact r_ireturn rfl rfl dJ0_coder_7d493_14 (Nat.le_of_ble_eq_true rfl) (Nat.le_of_ble_eq_true rfl)
theorem ok_J0_isLatin1 {E : GE} {T : TM} {I : IM} {J : JM} {P : PM} {k : Nat} (hk : k < 15) : Ctr E mJ0_isLatin1_aae02 0 0 0 [.ref k] T I J P (some (.int 1)) T I J P := by
  refine ctr_intro rfl (by decide) (Nat.le_of_ble_eq_true rfl) ?_
  refine r_compact kw_298 dJ0_isLatin1_aae02_0 ?_
  refine r_if_eq (tgt := 17) dJ0_isLatin1_aae02_3 (by decide) (fun h => absurd h (by decide)) (fun h => ?_)
  refine r_aload_n dJ0_isLatin1_aae02_6 rfl rfl ?_
  refine r_strC hk kw_1475 dJ0_isLatin1_aae02_7 ?_
  refine r_if_ne (tgt := 17) dJ0_isLatin1_aae02_10 (by decide) (fun h => absurd rfl h) (fun h => ?_)
  refine r_iconst (v := 1) dJ0_isLatin1_aae02_13 (by decide) ?_
  refine r_goto (tgt := 18) dJ0_isLatin1_aae02_14 (by decide) ?_
  exact r_ireturn rfl rfl dJ0_isLatin1_aae02_18 (Nat.le_of_ble_eq_true rfl) (Nat.le_of_ble_eq_true rfl)
theorem ok_J0_length {E : GE} {T : TM} {I : IM} {J : JM} {P : PM} {k : Nat} (hk : k < 15) : Ctr E mJ0_length_8abf5 1 0 0 [.ref k] T I J P (some (.int (nI (strLn.getD k 0)))) T I J P := by
  have e : nI (strLn.getD k 0) >>> ((0 : Int32) &&& 31) = nI (strLn.getD k 0) := sb_shr0 _
  refine ctr_intro rfl (by decide) (Nat.le_of_ble_eq_true rfl) ?_
  refine r_aload_n dJ0_length_8abf5_0 rfl rfl ?_
  refine r_strV hk kw_1474 dJ0_length_8abf5_1 ?_
  refine r_strL hk dJ0_length_8abf5_4 ?_
  refine r_aload_n dJ0_length_8abf5_5 rfl rfl ?_
  refine r_virtS (As := []) hk mi_J0_coder_7d493 kw_295 kw_296 kw_294 (ok_J0_coder hk) rfl rfl (Nat.le_of_ble_eq_true rfl) ⟨Nat.le_of_ble_eq_true rfl, Nat.le_of_ble_eq_true rfl⟩ ⟨Nat.le_of_ble_eq_true rfl, Nat.le_of_ble_eq_true rfl⟩ dJ0_length_8abf5_6 ?_
  refine r_ishr (x := nI (strLn.getD k 0)) (y := 0) dJ0_length_8abf5_9 ?_
  rw [e]
  exact r_ireturn rfl rfl dJ0_length_8abf5_10 (Nat.le_of_ble_eq_true rfl) (Nat.le_of_ble_eq_true rfl)
theorem ok_J0_charAt {E : GE} {T : TM} {I : IM} {J : JM} {P : PM} {k : Nat} {j : Int32} (hk : k < 15) (hj : inb j (strLn.getD k 0) = true) (h0 : ¬ j < 0) (h1 : j < nI (strLn.getD k 0)) : Ctr E mJ0_charAt_5068e 3 0 0 [.ref k, .int j] T I J P (some (.int (strCh k j))) T I J P := by
  refine ctr_intro rfl (by decide) (Nat.le_of_ble_eq_true rfl) ?_
  refine r_aload_n dJ0_charAt_5068e_0 rfl rfl ?_
  refine r_virtS (As := []) hk mi_J0_isLatin1_aae02 kw_309 kw_310 kw_308 (ok_J0_isLatin1 hk) rfl rfl (Nat.le_of_ble_eq_true rfl) ⟨Nat.le_of_ble_eq_true rfl, Nat.le_of_ble_eq_true rfl⟩ ⟨Nat.le_of_ble_eq_true rfl, Nat.le_of_ble_eq_true rfl⟩ dJ0_charAt_5068e_1 ?_
  refine r_if_eq (x := 1) (tgt := 16) dJ0_charAt_5068e_4 (by decide) (fun h => absurd h (by decide)) (fun h => ?_)
  refine r_aload_n dJ0_charAt_5068e_7 rfl rfl ?_
  refine r_strV hk kw_1474 dJ0_charAt_5068e_8 ?_
  refine r_iload_n dJ0_charAt_5068e_11 rfl rfl ?_
  refine c_static_i (As := [.ref (30 + k), .int j]) mi_J1_charAt_3b067 kw_313 kw_312 (ok_J1_charAt hk hj h0 h1) rfl rfl (Nat.le_of_ble_eq_true rfl) ⟨Nat.le_of_ble_eq_true rfl, Nat.le_of_ble_eq_true rfl⟩ ⟨Nat.le_of_ble_eq_true rfl, Nat.le_of_ble_eq_true rfl⟩ dJ0_charAt_5068e_12 ?_
  exact r_ireturn rfl (pk_nc _) dJ0_charAt_5068e_15 (Nat.le_of_ble_eq_true rfl) (Nat.le_of_ble_eq_true rfl)

section CALLR2
variable {E : GE} {M : MD} {R : Room} {Z : State → Array Value → List Frame → State → Prop} {kc ks : Nat} {T : TM} {I I' : IM} {J J' : JM} {P P' : PM} {pc : Nat} {ls : List (Nat × Value)} {st st2 stk As : List Value} {M' : MD} {n idx d' b ci : Nat}
theorem c_static_r {x : Nat} (hm : MI M' n) (hst : Cond.static M'.1 ∈ tbg) (hln : Cond.methodLink M.1.cls idx M'.1 ∈ tbg) (hc : Ctr E M' d' 0 0 As T I J P (some (.ref x)) T I' J' P') (hn : As.length = n) (hstk : stk = As.reverse ++ st) (hcat : (st.map fun v => v.category).sum ≤ 8) (hR : d' + 1 ≤ R.frames ∧ 8 + (M'.2.2.1 + 11) + 37 * d' ≤ R.locals) (hf : kc ≤ R.cells ∧ ks ≤ R.slots) (hd : decode M.2.1 pc = .ok (.invokestatic idx, 3)) (kk : WW E M R Z kc ks T I' J' P' (pc + 3) ls (.ref x :: st)) : WW E M R Z kc ks T I J P pc ls stk := r_static hm hst hln hc hn hstk hcat hR hf hd kk
theorem r_show (h : st = st2) (kk : WW E M R Z kc ks T I J P pc ls st2) : WW E M R Z kc ks T I J P pc ls st := h ▸ kk
end CALLR2
theorem isF_is {T : TM} {c k : Nat} (h : isF T c = true) (hk : T.2.1 c = k) : IS T c k := by
  obtain ⟨ci, -, h1, h2, h3⟩ := isF_of h
  exact ⟨h1, h2, hk⟩
theorem inb_lo {i : Int32} {n : Nat} (h : inb i n = true) : ¬ i < 0 := fun z => inb_in h (Or.inl z)
theorem inb_hi {i : Int32} {k : Nat} (hk : k < 15) (h : inb i (strLn.getD k 0) = true) : i < nI (strLn.getD k 0) := by
  have hs : strLn.getD k 0 < 2 ^ 31 := by
    have : ∀ k, k < 15 → strLn.getD k 0 < 2 ^ 31 := by decide +kernel
    exact this k hk
  simp only [inb, Bool.and_eq_true, decide_eq_true_eq] at h
  rw [Int32.lt_iff_toInt_lt, nI_toInt hs]
  exact h.2

