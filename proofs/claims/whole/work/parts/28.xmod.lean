theorem lt200 {x : Int32} (h : ¬ (200 : Int32) ≤ x) : x.toInt < 200 := by
  rw [Int32.le_iff_toInt_le, show (200 : Int32).toInt = 200 from rfl] at h
  omega
theorem inc_toInt {x : Int32} (h0 : 0 ≤ x.toInt) (h : x.toInt < 1000000) : (x + 1).toInt = x.toInt + 1 := by
  rw [Int32.toInt_add, show (1 : Int32).toInt = 1 from rfl]
  exact Int.bmod_eq_of_le (by omega) (by omega)
def G_X6_readInto_16 (N : Nat) : Nat → Int32 → TM → IM → JM → PM → Option (Int32 × TM × IM × JM × PM)
  | 0, _, _, _, _, _ => none
  | n + 1, u2, Tv, Iv, Jv, Pv => (if 200 ≤ u2 then (some ((Iv 80 3), Tv, Iv, Jv, Pv)) else (if (F_X6_isGood Iv) = 0 then (some ((Iv 80 3), Tv, Iv, Jv, Pv)) else (if (Iv 80 1) ≤ (Iv 80 2) then (some ((Iv 80 3), Tv, Iv, Jv, Pv)) else ((F_X6_readPart N Tv Iv Jv Pv).bind (fun x10 => ((F_X6_skipBlanks N x10.2.1).bind (fun x12 => (G_X6_readInto_16 N n (u2 + 1) x10.1 x12 x10.2.2.1 x10.2.2.2))))))))
set_option maxHeartbeats 4000000 in
theorem okG_X6_readInto_16 {E : GE} {N : Nat} {x : Int32 × TM × IM × JM × PM} : ∀ (n : Nat) (u2 : Int32) (Tv : TM) (Iv : IM) (Jv : JM) (Pv : PM) (kc ks : Nat), (kc : Int) ≤ u2.toInt → (ks : Int) ≤ 4 * u2.toInt → u2.toInt ≤ 200 → LOK Tv Pv → G_X6_readInto_16 N n u2 Tv Iv Jv Pv = some x → WW E mX6_readInto (RM 8 200 800) (ZP E (LOK x.2.1 x.2.2.2.2) 200 800 (some (.int x.1)) x.2.1 x.2.2.1 x.2.2.2.1 x.2.2.2.2) kc ks Tv Iv Jv Pv 16 [(0, .ref 80), (1, .ref 75), (2, .int u2)] [] := by
  intro n
  induction n with
  | zero =>
    intro u2 Tv Iv Jv Pv kc ks hkc hks hu hL hF
    cases hF
  | succ n ih =>
    intro u2 Tv Iv Jv Pv kc ks hkc hks hu hL hF
    rw [G_X6_readInto_16] at hF
    refine r_iload_n dX6_readInto_16 rfl rfl ?_
    refine r_sipush (v := 200) dX6_readInto_17 (by decide) ?_
    refine r_icmp_ge (tgt := 56) dX6_readInto_20 (by decide) (fun h5 => ?_) (fun h5 => ?_)
    · have hF := tw hF h5
      refine r_aload_n dX6_readInto_56 rfl rfl ?_
      refine r_getI lk_X6_22 (ln_80 hL) dX6_readInto_57 ?_
      obtain rfl := Option.some.inj hF
      exact p_ireturn (x := (Iv 80 3)) rfl rfl dX6_readInto_60 hL (by omega) (by omega)
    · have hF := fw hF h5
      have hlt : u2.toInt < 200 := lt200 h5
      refine r_aload_n dX6_readInto_23 rfl rfl ?_
      refine c_virt_i (As := []) mi_X6_isGood kw_271 ks_1 kw_269 rfl (by decide) (ln_80 hL) (ok_X6_isGood hL  ) rfl rfl (Nat.le_of_ble_eq_true rfl) ⟨Nat.le_of_ble_eq_true rfl, Nat.le_of_ble_eq_true rfl⟩ ⟨by show _ ≤ 200; omega, by show _ ≤ 800; omega⟩ dX6_readInto_24 ?_
      refine r_if_eq (tgt := 56) dX6_readInto_27 (by decide) (fun h7 => ?_) (fun h7 => ?_)
      · have hF := tw hF h7
        refine r_aload_n dX6_readInto_56 rfl rfl ?_
        refine r_getI lk_X6_22 (ln_80 hL) dX6_readInto_57 ?_
        obtain rfl := Option.some.inj hF
        exact p_ireturn (x := (Iv 80 3)) rfl rfl dX6_readInto_60 hL (by omega) (by omega)
      · have hF := fw hF h7
        refine r_aload_n dX6_readInto_30 rfl rfl ?_
        refine r_getI lk_X6_19 (ln_80 hL) dX6_readInto_31 ?_
        refine r_aload_n dX6_readInto_34 rfl rfl ?_
        refine r_getI lk_X6_15 (ln_80 hL) dX6_readInto_35 ?_
        refine r_icmp_ge (tgt := 56) dX6_readInto_38 (by decide) (fun h9 => ?_) (fun h9 => ?_)
        · have hF := tw hF h9
          refine r_aload_n dX6_readInto_56 rfl rfl ?_
          refine r_getI lk_X6_22 (ln_80 hL) dX6_readInto_57 ?_
          obtain rfl := Option.some.inj hF
          exact p_ireturn (x := (Iv 80 3)) rfl rfl dX6_readInto_60 hL (by omega) (by omega)
        · have hF := fw hF h9
          refine r_aload_n dX6_readInto_41 rfl rfl ?_
          refine r_aload_n dX6_readInto_42 rfl rfl ?_
          obtain ⟨x10, hx10, hF⟩ := bnd hF
          refine ct_virt_v (As := [.ref 75]) mi_X6_readPart kw_275 ks_2 kw_273 rfl (by decide) (ln_80 hL) (ok_X6_readPart hL  hx10) rfl rfl (Nat.le_of_ble_eq_true rfl) ⟨Nat.le_of_ble_eq_true rfl, Nat.le_of_ble_eq_true rfl⟩ ⟨by show _ ≤ 200; omega, by show _ ≤ 800; omega⟩ dX6_readInto_43 ?_
          intro hL b11a b11b
          refine r_aload_n dX6_readInto_46 rfl rfl ?_
          obtain ⟨x12, hx12, hF⟩ := bnd hF
          refine c_virt_v (As := []) mi_X6_skipBlanks kw_267 ks_0 kw_265 rfl (by decide) (ln_80 hL) (ok_X6_skipBlanks hL  hx12) rfl rfl (Nat.le_of_ble_eq_true rfl) ⟨Nat.le_of_ble_eq_true rfl, Nat.le_of_ble_eq_true rfl⟩ ⟨by show _ ≤ 200; omega, by show _ ≤ 800; omega⟩ dX6_readInto_47 ?_
          refine r_iinc (v := (u2 + 1)) (ls' := [(2, .int (u2 + 1)), (0, .ref 80), (1, .ref 75)]) dX6_readInto_50 rfl rfl (by decide) rfl ?_
          refine r_goto (tgt := 16) dX6_readInto_53 (by decide) ?_
          refine r_sub (ls' := [(0, .ref 80), (1, .ref 75), (2, .int (u2 + 1))]) [1, 2, 0] rfl ?_
          exact ih (u2 + 1) x10.1 x12 x10.2.2.1 x10.2.2.2 (kc + (x10.1.1 - Tv.1)) (ks + 4) (by rw [inc_toInt (by omega) (by omega)]; omega) (by rw [inc_toInt (by omega) (by omega)]; omega) (by rw [inc_toInt (by omega) (by omega)]; omega) hL hF
def F_X6_readInto (N : Nat) (T : TM) (I : IM) (J : JM) (P : PM) : Option (Int32 × TM × IM × JM × PM) := (letb (up2 I 80 2 0) (fun I1 : IM => (letb (up2 I1 80 3 (-1)) (fun I2 : IM => ((F_X6_skipBlanks N I2).bind (fun x3 => (G_X6_readInto_16 N N 0 T x3 J P)))))))
set_option maxHeartbeats 4000000 in
theorem ok_X6_readInto {E : GE} {T : TM} {I : IM} {J : JM} {P : PM} {N : Nat} {x : Int32 × TM × IM × JM × PM} (hL : LOK T P) (hF : F_X6_readInto N T I J P = some x) : CtrP E (LOK x.2.1 x.2.2.2.2) mX6_readInto 8 200 800 [.ref 80, .ref 75] T I J P (some (.int x.1)) x.2.1 x.2.2.1 x.2.2.2.1 x.2.2.2.2 := by
  unfold F_X6_readInto at hF
  refine ctrP_intro (by decide) (Nat.le_of_ble_eq_true rfl) ?_
  refine r_sub (ls' := [(1, .ref 75), (0, .ref 80)]) [1, 0] rfl ?_
  refine r_aload_n dX6_readInto_0 rfl rfl ?_
  refine r_iconst (v := 0) dX6_readInto_1 (by decide) ?_
  refine r_putI lk_X6_19 (Or.inl rfl) (ln_80 hL) rfl rfl dX6_readInto_2 ?_
  refine r_letI hF (fun I1 hF => ?_)
  refine r_aload_n dX6_readInto_5 rfl rfl ?_
  refine r_iconst (v := (-1)) dX6_readInto_6 (by decide) ?_
  refine r_putI lk_X6_22 (Or.inl rfl) (ln_80 hL) rfl rfl dX6_readInto_7 ?_
  refine r_letI hF (fun I2 hF => ?_)
  refine r_aload_n dX6_readInto_10 rfl rfl ?_
  obtain ⟨x3, hx3, hF⟩ := bnd hF
  refine c_virt_v (As := []) mi_X6_skipBlanks kw_267 ks_0 kw_265 rfl (by decide) (ln_80 hL) (ok_X6_skipBlanks hL  hx3) rfl rfl (Nat.le_of_ble_eq_true rfl) ⟨Nat.le_of_ble_eq_true rfl, Nat.le_of_ble_eq_true rfl⟩ ⟨Nat.le_of_ble_eq_true rfl, Nat.le_of_ble_eq_true rfl⟩ dX6_readInto_11 ?_
  refine r_iconst (v := 0) dX6_readInto_14 (by decide) ?_
  refine r_istore_n (ls' := [(2, .int 0), (1, .ref 75), (0, .ref 80)]) dX6_readInto_15 rfl (by decide) rfl ?_
  refine r_sub (ls' := [(0, .ref 80), (1, .ref 75), (2, .int 0)]) [2, 1, 0] rfl ?_
  exact okG_X6_readInto_16    N 0 T x3 J P 0 0 (by decide) (by decide) (by decide) hL hF
def F_X11_cards (N : Nat) (T : TM) (I : IM) (J : JM) (P : PM) : Option (Int32 × TM × IM × JM × PM) := ((F_X10_copyFrom T I P 75 65).bind (fun x1 => ((F_X10_clearCards x1.1 x1.2 75).bind (fun x2 => ((F_X6_readInto N T x2.1 J x2.2).bind (fun x3 => (letb (up2 x3.2.2.1 80 1 0) (fun I5 : IM => (if x3.1 = (-1) then ((F_X10_copyFrom x3.2.1 I5 x3.2.2.2.2 65 75).bind (fun x7 => (letb (up2 x7.1 64 11 0) (fun I8 : IM => (some ((I8 65 1), x3.2.1, I8, x3.2.2.2.1, x7.2)))))) else (some (((-100) - x3.1), x3.2.1, I5, x3.2.2.2.1, x3.2.2.2.2)))))))))))
set_option maxHeartbeats 4000000 in
theorem ok_X11_cards {E : GE} {T : TM} {I : IM} {J : JM} {P : PM} {N : Nat} {x : Int32 × TM × IM × JM × PM} (hL : LOK T P) (hF : F_X11_cards N T I J P = some x) : CtrP E (LOK x.2.1 x.2.2.2.2) mX11_cards 9 200 800 [.ref 64] T I J P (some (.int x.1)) x.2.1 x.2.2.1 x.2.2.2.1 x.2.2.2.2 := by
  unfold F_X11_cards at hF
  refine ctrP_intro (by decide) (Nat.le_of_ble_eq_true rfl) ?_
  refine r_sub (ls' := [(0, .ref 64)]) [0] rfl ?_
  refine r_aload_n dX11_cards_0 rfl rfl ?_
  refine r_getP lk_X11_19 (ln_64 hL) (pp_64_3 hL) dX11_cards_1 ?_
  refine r_aload_n dX11_cards_4 rfl rfl ?_
  refine r_getP lk_X11_10 (ln_64 hL) (pp_64_0 hL) dX11_cards_5 ?_
  obtain ⟨x1, hx1, hF⟩ := bnd hF
  refine cp_virt_v (As := [.ref 65]) mi_X10_copyFrom kw_247 kw_248 kw_246 rfl (by decide) (ln_75 hL) (ok_X10_copyFrom hL (isw_75) (isw_65) hx1) rfl rfl (Nat.le_of_ble_eq_true rfl) ⟨Nat.le_of_ble_eq_true rfl, Nat.le_of_ble_eq_true rfl⟩ ⟨Nat.le_of_ble_eq_true rfl, Nat.le_of_ble_eq_true rfl⟩ dX11_cards_8 ?_
  intro hL
  refine r_aload_n dX11_cards_11 rfl rfl ?_
  refine r_getP lk_X11_19 (ln_64 hL) (pp_64_3 hL) dX11_cards_12 ?_
  obtain ⟨x2, hx2, hF⟩ := bnd hF
  refine cp_virt_v (As := []) mi_X10_clearCards kw_258 kw_259 kw_257 rfl (by decide) (ln_75 hL) (ok_X10_clearCards hL (isw_75) hx2) rfl rfl (Nat.le_of_ble_eq_true rfl) ⟨Nat.le_of_ble_eq_true rfl, Nat.le_of_ble_eq_true rfl⟩ ⟨Nat.le_of_ble_eq_true rfl, Nat.le_of_ble_eq_true rfl⟩ dX11_cards_15 ?_
  intro hL
  refine r_aload_n dX11_cards_18 rfl rfl ?_
  refine r_getP lk_X11_25 (ln_64 hL) (pp_64_4 hL) dX11_cards_19 ?_
  refine r_aload_n dX11_cards_22 rfl rfl ?_
  refine r_getP lk_X11_19 (ln_64 hL) (pp_64_3 hL) dX11_cards_23 ?_
  obtain ⟨x3, hx3, hF⟩ := bnd hF
  refine ct_virt_i (As := [.ref 75]) mi_X6_readInto kw_262 kw_263 kw_261 rfl (by decide) (ln_80 hL) (ok_X6_readInto hL  hx3) rfl rfl (Nat.le_of_ble_eq_true rfl) ⟨Nat.le_of_ble_eq_true rfl, Nat.le_of_ble_eq_true rfl⟩ ⟨Nat.le_of_ble_eq_true rfl, Nat.le_of_ble_eq_true rfl⟩ dX11_cards_26 ?_
  intro hL b4a b4b
  refine r_istore_n (ls' := [(1, .int x3.1), (0, .ref 64)]) dX11_cards_29 rfl (by decide) rfl ?_
  refine r_aload_n dX11_cards_30 rfl rfl ?_
  refine r_getP lk_X11_25 (ln_64 hL) (pp_64_4 hL) dX11_cards_31 ?_
  refine r_iconst (v := 0) dX11_cards_34 (by decide) ?_
  refine r_putI lk_X11_76 (Or.inl rfl) (ln_80 hL) rfl rfl dX11_cards_35 ?_
  refine r_letI hF (fun I5 hF => ?_)
  refine r_iload_n dX11_cards_38 rfl rfl ?_
  refine r_iconst (v := (-1)) dX11_cards_39 (by decide) ?_
  refine r_icmp_eq (tgt := 48) dX11_cards_40 (by decide) (fun h6 => ?_) (fun h6 => ?_)
  · have hF := tw hF h6
    refine r_aload_n dX11_cards_48 rfl rfl ?_
    refine r_getP lk_X11_10 (ln_64 hL) (pp_64_0 hL) dX11_cards_49 ?_
    refine r_aload_n dX11_cards_52 rfl rfl ?_
    refine r_getP lk_X11_19 (ln_64 hL) (pp_64_3 hL) dX11_cards_53 ?_
    obtain ⟨x7, hx7, hF⟩ := bnd hF
    refine cp_virt_v (As := [.ref 75]) mi_X10_copyFrom kw_247 kw_248 kw_246 rfl (by decide) (ln_65 hL) (ok_X10_copyFrom hL (isw_65) (isw_75) hx7) rfl rfl (Nat.le_of_ble_eq_true rfl) ⟨Nat.le_of_ble_eq_true rfl, Nat.le_of_ble_eq_true rfl⟩ ⟨by show _ ≤ 200; omega, by show _ ≤ 800; omega⟩ dX11_cards_56 ?_
    intro hL
    refine r_aload_n dX11_cards_59 rfl rfl ?_
    refine r_iconst (v := 0) dX11_cards_60 (by decide) ?_
    refine r_putI lk_X11_91 (Or.inl rfl) (ln_64 hL) rfl rfl dX11_cards_61 ?_
    refine r_letI hF (fun I8 hF => ?_)
    refine r_aload_n dX11_cards_64 rfl rfl ?_
    refine r_getP lk_X11_10 (ln_64 hL) (pp_64_0 hL) dX11_cards_65 ?_
    refine r_getI lk_X11_94 (ln_65 hL) dX11_cards_68 ?_
    obtain rfl := Option.some.inj hF
    exact p_ireturn (x := (I8 65 1)) rfl rfl dX11_cards_71 hL (by omega) (by omega)
  · have hF := fw hF h6
    refine r_bipush (v := (-100)) dX11_cards_43 (by decide) ?_
    refine r_iload_n dX11_cards_45 rfl rfl ?_
    refine r_isub dX11_cards_46 ?_
    obtain rfl := Option.some.inj hF
    exact p_ireturn (x := ((-100) - x3.1)) rfl rfl dX11_cards_47 hL (by omega) (by omega)
