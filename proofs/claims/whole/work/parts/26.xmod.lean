def G_X6_takeBytes_21 (N : Nat) (u1 : Int64) (u3 : Int32) : Nat → Int32 → IM → Option (Int32 × IM)
  | 0, _, _ => none
  | n + 1, u4, Iv => (if u3 ≤ u4 then (some (1, Iv)) else (if inb (Iv 80 1) 200 = true then (letb (up2 Iv 81 (Iv 80 1).toNatClampNeg (vp_nar .byte ((Int32.toInt8 (Int64.toInt32 (u1 >>> (Int32.toInt64 (8 * u4) &&& 63)))).toInt32))) (fun I6 : IM => (letb (up2 I6 80 1 ((I6 80 1) + 1)) (fun I7 : IM => (G_X6_takeBytes_21 N u1 u3 n (u4 + 1) I7))))) else none))
set_option maxHeartbeats 4000000 in
theorem okG_X6_takeBytes_21 {E : GE} {T : TM} {J : JM} {P : PM} {N : Nat} {u1 : Int64} {u3 : Int32} {x : Int32 × IM} (hL : LOK T P) : ∀ (n : Nat) (u4 : Int32) (Iv : IM), G_X6_takeBytes_21 N u1 u3 n u4 Iv = some x → WW E mX6_takeBytes (RM 0 0 0) (ZM E 0 0 (some (.int x.1)) T x.2 J P) 0 0 T Iv J P 21 [(0, .ref 80), (1, .long u1), (3, .int u3), (4, .int u4)] [] := by
  intro n
  induction n with
  | zero =>
    intro u4 Iv hF
    cases hF
  | succ n ih =>
    intro u4 Iv hF
    rw [G_X6_takeBytes_21] at hF
    refine r_iload dX6_takeBytes_21 rfl ?_
    refine r_iload_n dX6_takeBytes_23 rfl rfl ?_
    refine r_icmp_ge (tgt := 61) dX6_takeBytes_24 (by decide) (fun h4 => ?_) (fun h4 => ?_)
    · have hF := tw hF h4
      refine r_iconst (v := 1) dX6_takeBytes_61 (by decide) ?_
      obtain rfl := Option.some.inj hF
      exact r_ireturn (x := 1) rfl rfl dX6_takeBytes_62 (Nat.le_of_ble_eq_true rfl) (Nat.le_of_ble_eq_true rfl)
    · have hF := fw hF h4
      refine r_aload_n dX6_takeBytes_27 rfl rfl ?_
      refine r_getP lk_X6_9 (ln_80 hL) (pp_80_0 hL) dX6_takeBytes_28 ?_
      refine r_aload_n dX6_takeBytes_31 rfl rfl ?_
      refine r_getI lk_X6_15 (ln_80 hL) dX6_takeBytes_32 ?_
      refine r_lload_n dX6_takeBytes_35 rfl rfl ?_
      refine r_bipush (v := 8) dX6_takeBytes_36 (by decide) ?_
      refine r_iload dX6_takeBytes_38 rfl ?_
      refine r_imul dX6_takeBytes_40 ?_
      refine r_lshr dX6_takeBytes_41 ?_
      refine r_l2i dX6_takeBytes_42 ?_
      refine r_i2b dX6_takeBytes_43 ?_
      obtain ⟨g5, hF⟩ := gd hF
      refine r_bast (ln_81 hL) (by rw [(nl_81 hL)]; exact g5) dX6_takeBytes_44 ?_
      refine r_letI hF (fun I6 hF => ?_)
      refine r_aload_n dX6_takeBytes_45 rfl rfl ?_
      refine r_dup dX6_takeBytes_46 rfl ?_
      refine r_getI lk_X6_15 (ln_80 hL) dX6_takeBytes_47 ?_
      refine r_iconst (v := 1) dX6_takeBytes_50 (by decide) ?_
      refine r_iadd dX6_takeBytes_51 ?_
      refine r_putI lk_X6_15 (Or.inl rfl) (ln_80 hL) rfl rfl dX6_takeBytes_52 ?_
      refine r_letI hF (fun I7 hF => ?_)
      refine r_iinc (v := (u4 + 1)) (ls' := [(4, .int (u4 + 1)), (0, .ref 80), (1, .long u1), (3, .int u3)]) dX6_takeBytes_55 rfl rfl (by decide) rfl ?_
      refine r_goto (tgt := 21) dX6_takeBytes_58 (by decide) ?_
      refine r_sub (ls' := [(0, .ref 80), (1, .long u1), (3, .int u3), (4, .int (u4 + 1))]) [1, 2, 3, 0] rfl ?_
      exact ih (u4 + 1) I7 hF
def F_X6_takeBytes (N : Nat) (I : IM) (p1 : Int64) (p2 : Int32) : Option (Int32 × IM) := (if p2 < 0 then (some (0, I)) else (if p2 ≤ (200 - (I 80 1)) then (G_X6_takeBytes_21 N p1 p2 N 0 I) else (some (0, I))))
set_option maxHeartbeats 4000000 in
theorem ok_X6_takeBytes {E : GE} {T : TM} {I : IM} {J : JM} {P : PM} {p1 : Int64} {p2 : Int32} {N : Nat} {x : Int32 × IM} (hL : LOK T P) (hF : F_X6_takeBytes N I p1 p2 = some x) : Ctr E mX6_takeBytes 0 0 0 [.ref 80, .long p1, .int p2] T I J P (some (.int x.1)) T x.2 J P := by
  unfold F_X6_takeBytes at hF
  refine ctr_intro rfl (by decide +kernel) (Nat.le_of_ble_eq_true rfl) ?_
  refine r_sub (ls' := [(3, .int p2), (1, .long p1), (0, .ref 80)]) [2, 1, 0] rfl ?_
  refine r_iload_n dX6_takeBytes_0 rfl rfl ?_
  refine r_if_lt (tgt := 16) dX6_takeBytes_1 (by decide) (fun h1 => ?_) (fun h1 => ?_)
  · have hF := tw hF h1
    refine r_iconst (v := 0) dX6_takeBytes_16 (by decide) ?_
    obtain rfl := Option.some.inj hF
    exact r_ireturn (x := 0) rfl rfl dX6_takeBytes_17 (Nat.le_of_ble_eq_true rfl) (Nat.le_of_ble_eq_true rfl)
  · have hF := fw hF h1
    refine r_iload_n dX6_takeBytes_4 rfl rfl ?_
    refine r_sipush (v := 200) dX6_takeBytes_5 (by decide) ?_
    refine r_aload_n dX6_takeBytes_8 rfl rfl ?_
    refine r_getI lk_X6_15 (ln_80 hL) dX6_takeBytes_9 ?_
    refine r_isub dX6_takeBytes_12 ?_
    refine r_icmp_le (tgt := 18) dX6_takeBytes_13 (by decide) (fun h2 => ?_) (fun h2 => ?_)
    · have hF := tw hF h2
      refine r_iconst (v := 0) dX6_takeBytes_18 (by decide) ?_
      refine r_istore (ls' := [(4, .int 0), (3, .int p2), (1, .long p1), (0, .ref 80)]) dX6_takeBytes_19 (by decide) rfl ?_
      refine r_sub (ls' := [(0, .ref 80), (1, .long p1), (3, .int p2), (4, .int 0)]) [3, 2, 1, 0] rfl ?_
      exact okG_X6_takeBytes_21 hL   N 0 I hF
    · have hF := fw hF h2
      refine r_iconst (v := 0) dX6_takeBytes_16 (by decide) ?_
      obtain rfl := Option.some.inj hF
      exact r_ireturn (x := 0) rfl rfl dX6_takeBytes_17 (Nat.le_of_ble_eq_true rfl) (Nat.le_of_ble_eq_true rfl)
def F_X11_feed (N : Nat) (I : IM) (p1 : Int64) (p2 : Int32) : Option (Int32 × IM) := (if p2 < 1 then (some ((-1), I)) else (if p2 ≤ 8 then ((F_X6_takeBytes N I p1 p2).bind (fun x3 => (if x3.1 = 0 then (some ((-2), x3.2)) else (some ((x3.2 80 1), x3.2))))) else (some ((-1), I))))
set_option maxHeartbeats 4000000 in
theorem ok_X11_feed {E : GE} {T : TM} {I : IM} {J : JM} {P : PM} {p1 : Int64} {p2 : Int32} {N : Nat} {x : Int32 × IM} (hL : LOK T P) (hF : F_X11_feed N I p1 p2 = some x) : Ctr E mX11_feed 1 0 0 [.ref 64, .long p1, .int p2] T I J P (some (.int x.1)) T x.2 J P := by
  unfold F_X11_feed at hF
  refine ctr_intro rfl (by decide +kernel) (Nat.le_of_ble_eq_true rfl) ?_
  refine r_sub (ls' := [(3, .int p2), (1, .long p1), (0, .ref 64)]) [2, 1, 0] rfl ?_
  refine r_iload_n dX11_feed_0 rfl rfl ?_
  refine r_iconst (v := 1) dX11_feed_1 (by decide) ?_
  refine r_icmp_lt (tgt := 11) dX11_feed_2 (by decide) (fun h1 => ?_) (fun h1 => ?_)
  · have hF := tw hF h1
    refine r_iconst (v := (-1)) dX11_feed_11 (by decide) ?_
    obtain rfl := Option.some.inj hF
    exact r_ireturn (x := (-1)) rfl rfl dX11_feed_12 (Nat.le_of_ble_eq_true rfl) (Nat.le_of_ble_eq_true rfl)
  · have hF := fw hF h1
    refine r_iload_n dX11_feed_5 rfl rfl ?_
    refine r_bipush (v := 8) dX11_feed_6 (by decide) ?_
    refine r_icmp_le (tgt := 13) dX11_feed_8 (by decide) (fun h2 => ?_) (fun h2 => ?_)
    · have hF := tw hF h2
      refine r_aload_n dX11_feed_13 rfl rfl ?_
      refine r_getP lk_X11_25 (ln_64 hL) (pp_64_4 hL) dX11_feed_14 ?_
      refine r_lload_n dX11_feed_17 rfl rfl ?_
      refine r_iload_n dX11_feed_18 rfl rfl ?_
      obtain ⟨x3, hx3, hF⟩ := bnd hF
      refine c_virt_i (As := [.long p1, .int p2]) mi_X6_takeBytes kw_239 kw_240 kw_238 rfl (by decide) (ln_80 hL) (ok_X6_takeBytes hL  hx3) rfl rfl (Nat.le_of_ble_eq_true rfl) ⟨Nat.le_of_ble_eq_true rfl, Nat.le_of_ble_eq_true rfl⟩ ⟨Nat.le_of_ble_eq_true rfl, Nat.le_of_ble_eq_true rfl⟩ dX11_feed_19 ?_
      refine r_if_eq (tgt := 35) dX11_feed_22 (by decide) (fun h4 => ?_) (fun h4 => ?_)
      · have hF := tw hF h4
        refine r_bipush (v := (-2)) dX11_feed_35 (by decide) ?_
        obtain rfl := Option.some.inj hF
        exact r_ireturn (x := (-2)) rfl rfl dX11_feed_37 (Nat.le_of_ble_eq_true rfl) (Nat.le_of_ble_eq_true rfl)
      · have hF := fw hF h4
        refine r_aload_n dX11_feed_25 rfl rfl ?_
        refine r_getP lk_X11_25 (ln_64 hL) (pp_64_4 hL) dX11_feed_26 ?_
        refine r_getI lk_X11_76 (ln_80 hL) dX11_feed_29 ?_
        refine r_goto (tgt := 37) dX11_feed_32 (by decide) ?_
        obtain rfl := Option.some.inj hF
        exact r_ireturn (x := (x3.2 80 1)) rfl rfl dX11_feed_37 (Nat.le_of_ble_eq_true rfl) (Nat.le_of_ble_eq_true rfl)
    · have hF := fw hF h2
      refine r_iconst (v := (-1)) dX11_feed_11 (by decide) ?_
      obtain rfl := Option.some.inj hF
      exact r_ireturn (x := (-1)) rfl rfl dX11_feed_12 (Nat.le_of_ble_eq_true rfl) (Nat.le_of_ble_eq_true rfl)
def F_X1_copyFrom (I : IM) (P : PM) (a : Nat) (a1 : Nat) : Option (IM × PM) := (osel (P a1 0) (letb (up2 P a 0 none) (fun P3 : PM => (letb (up2 I a 1 (I a1 1)) (fun I4 : IM => (letb (up2 I4 a 2 (I4 a1 2)) (fun I5 : IM => (letb (up2 I5 a 3 (I5 a1 3)) (fun I6 : IM => (letb (up2 I6 a 4 (I6 a1 4)) (fun I7 : IM => (letb (up2 I7 a 5 (I7 a1 5)) (fun I8 : IM => (letb (up2 I8 a 6 (I8 a1 6)) (fun I9 : IM => (letb (up2 I9 a 7 (I9 a1 7)) (fun I10 : IM => (letb (up2 I10 a 8 (I10 a1 8)) (fun I11 : IM => (letb (up2 I11 a 9 (I11 a1 9)) (fun I12 : IM => (letb (up2 I12 a 10 (I12 a1 10)) (fun I13 : IM => (some (I13, P3)))))))))))))))))))))))) (fun c1 => (letb (up2 P a 0 (some c1)) (fun P14 : PM => (letb (up2 I a 1 (I a1 1)) (fun I15 : IM => (letb (up2 I15 a 2 (I15 a1 2)) (fun I16 : IM => (letb (up2 I16 a 3 (I16 a1 3)) (fun I17 : IM => (letb (up2 I17 a 4 (I17 a1 4)) (fun I18 : IM => (letb (up2 I18 a 5 (I18 a1 5)) (fun I19 : IM => (letb (up2 I19 a 6 (I19 a1 6)) (fun I20 : IM => (letb (up2 I20 a 7 (I20 a1 7)) (fun I21 : IM => (letb (up2 I21 a 8 (I21 a1 8)) (fun I22 : IM => (letb (up2 I22 a 9 (I22 a1 9)) (fun I23 : IM => (letb (up2 I23 a 10 (I23 a1 10)) (fun I24 : IM => (some (I24, P14))))))))))))))))))))))))))
set_option maxHeartbeats 4000000 in
theorem ok_X1_copyFrom {E : GE} {T : TM} {I : IM} {J : JM} {P : PM} {a : Nat} {a1 : Nat} {x : IM × PM} (hL : LOK T P) (ha : IS T a 1) (ha1 : IS T a1 1) (hF : F_X1_copyFrom I P a a1 = some x) : CtrP E (LOK T x.2) mX1_copyFrom 0 0 0 [.ref a, .ref a1] T I J P none T x.1 J x.2 := by
  unfold F_X1_copyFrom at hF
  refine ctrP_intro (by decide) (Nat.le_of_ble_eq_true rfl) ?_
  refine r_sub (ls' := [(1, .ref a1), (0, .ref a)]) [1, 0] rfl ?_
  refine r_aload_n dX1_copyFrom_0 rfl rfl ?_
  refine r_aload_n dX1_copyFrom_1 rfl rfl ?_
  rcases q2 : (P a1 0) with _ | c1
  · have hF := (osel_n q2).symm.trans hF
    refine r_getN lk_X1_9 ha1 q2 dX1_copyFrom_2 ?_
    refine r_putN lk_X1_9 (Or.inl rfl) ha rfl rfl dX1_copyFrom_5 ?_
    refine r_letP hF (fun P3 eP3 hF => ?_)
    have hL : LOK T P3 := by rw [eP3]; exact hL.up ha (Or.inl rfl)
    refine r_aload_n dX1_copyFrom_8 rfl rfl ?_
    refine r_aload_n dX1_copyFrom_9 rfl rfl ?_
    refine r_getI lk_X1_21 ha1 dX1_copyFrom_10 ?_
    refine r_putI lk_X1_21 (Or.inl rfl) ha rfl rfl dX1_copyFrom_13 ?_
    refine r_letI hF (fun I4 hF => ?_)
    refine r_aload_n dX1_copyFrom_16 rfl rfl ?_
    refine r_aload_n dX1_copyFrom_17 rfl rfl ?_
    refine r_getI lk_X1_22 ha1 dX1_copyFrom_18 ?_
    refine r_putI lk_X1_22 (Or.inl rfl) ha rfl rfl dX1_copyFrom_21 ?_
    refine r_letI hF (fun I5 hF => ?_)
    refine r_aload_n dX1_copyFrom_24 rfl rfl ?_
    refine r_aload_n dX1_copyFrom_25 rfl rfl ?_
    refine r_getI lk_X1_25 ha1 dX1_copyFrom_26 ?_
    refine r_putI lk_X1_25 (Or.inl rfl) ha rfl rfl dX1_copyFrom_29 ?_
    refine r_letI hF (fun I6 hF => ?_)
    refine r_aload_n dX1_copyFrom_32 rfl rfl ?_
    refine r_aload_n dX1_copyFrom_33 rfl rfl ?_
    refine r_getI lk_X1_28 ha1 dX1_copyFrom_34 ?_
    refine r_putI lk_X1_28 (Or.inl rfl) ha rfl rfl dX1_copyFrom_37 ?_
    refine r_letI hF (fun I7 hF => ?_)
    refine r_aload_n dX1_copyFrom_40 rfl rfl ?_
    refine r_aload_n dX1_copyFrom_41 rfl rfl ?_
    refine r_getI lk_X1_31 ha1 dX1_copyFrom_42 ?_
    refine r_putI lk_X1_31 (Or.inl rfl) ha rfl rfl dX1_copyFrom_45 ?_
    refine r_letI hF (fun I8 hF => ?_)
    refine r_aload_n dX1_copyFrom_48 rfl rfl ?_
    refine r_aload_n dX1_copyFrom_49 rfl rfl ?_
    refine r_getI lk_X1_34 ha1 dX1_copyFrom_50 ?_
    refine r_putI lk_X1_34 (Or.inl rfl) ha rfl rfl dX1_copyFrom_53 ?_
    refine r_letI hF (fun I9 hF => ?_)
    refine r_aload_n dX1_copyFrom_56 rfl rfl ?_
    refine r_aload_n dX1_copyFrom_57 rfl rfl ?_
    refine r_getI lk_X1_37 ha1 dX1_copyFrom_58 ?_
    refine r_putI lk_X1_37 (Or.inl rfl) ha rfl rfl dX1_copyFrom_61 ?_
    refine r_letI hF (fun I10 hF => ?_)
    refine r_aload_n dX1_copyFrom_64 rfl rfl ?_
    refine r_aload_n dX1_copyFrom_65 rfl rfl ?_
    refine r_getI lk_X1_40 ha1 dX1_copyFrom_66 ?_
    refine r_putI lk_X1_40 (Or.inl rfl) ha rfl rfl dX1_copyFrom_69 ?_
    refine r_letI hF (fun I11 hF => ?_)
    refine r_aload_n dX1_copyFrom_72 rfl rfl ?_
    refine r_aload_n dX1_copyFrom_73 rfl rfl ?_
    refine r_getI lk_X1_43 ha1 dX1_copyFrom_74 ?_
    refine r_putI lk_X1_43 (Or.inl rfl) ha rfl rfl dX1_copyFrom_77 ?_
    refine r_letI hF (fun I12 hF => ?_)
    refine r_aload_n dX1_copyFrom_80 rfl rfl ?_
    refine r_aload_n dX1_copyFrom_81 rfl rfl ?_
    refine r_getI lk_X1_46 ha1 dX1_copyFrom_82 ?_
    refine r_putI lk_X1_46 (Or.inl rfl) ha rfl rfl dX1_copyFrom_85 ?_
    refine r_letI hF (fun I13 hF => ?_)
    obtain rfl := Option.some.inj hF
    exact p_return rfl dX1_copyFrom_88 hL (Nat.le_of_ble_eq_true rfl) (Nat.le_of_ble_eq_true rfl)
  · have hF := (osel_s q2).symm.trans hF
    refine r_getP lk_X1_9 ha1 q2 dX1_copyFrom_2 ?_
    refine r_putP lk_X1_9 (Or.inl rfl) ha (fun _ => rfl) (fun _ => rfl) dX1_copyFrom_5 ?_
    refine r_letP hF (fun P14 eP14 hF => ?_)
    have hL : LOK T P14 := by rw [eP14]; exact hL.up ha (Or.inl rfl)
    refine r_aload_n dX1_copyFrom_8 rfl rfl ?_
    refine r_aload_n dX1_copyFrom_9 rfl rfl ?_
    refine r_getI lk_X1_21 ha1 dX1_copyFrom_10 ?_
    refine r_putI lk_X1_21 (Or.inl rfl) ha rfl rfl dX1_copyFrom_13 ?_
    refine r_letI hF (fun I15 hF => ?_)
    refine r_aload_n dX1_copyFrom_16 rfl rfl ?_
    refine r_aload_n dX1_copyFrom_17 rfl rfl ?_
    refine r_getI lk_X1_22 ha1 dX1_copyFrom_18 ?_
    refine r_putI lk_X1_22 (Or.inl rfl) ha rfl rfl dX1_copyFrom_21 ?_
    refine r_letI hF (fun I16 hF => ?_)
    refine r_aload_n dX1_copyFrom_24 rfl rfl ?_
    refine r_aload_n dX1_copyFrom_25 rfl rfl ?_
    refine r_getI lk_X1_25 ha1 dX1_copyFrom_26 ?_
    refine r_putI lk_X1_25 (Or.inl rfl) ha rfl rfl dX1_copyFrom_29 ?_
    refine r_letI hF (fun I17 hF => ?_)
    refine r_aload_n dX1_copyFrom_32 rfl rfl ?_
    refine r_aload_n dX1_copyFrom_33 rfl rfl ?_
    refine r_getI lk_X1_28 ha1 dX1_copyFrom_34 ?_
    refine r_putI lk_X1_28 (Or.inl rfl) ha rfl rfl dX1_copyFrom_37 ?_
    refine r_letI hF (fun I18 hF => ?_)
    refine r_aload_n dX1_copyFrom_40 rfl rfl ?_
    refine r_aload_n dX1_copyFrom_41 rfl rfl ?_
    refine r_getI lk_X1_31 ha1 dX1_copyFrom_42 ?_
    refine r_putI lk_X1_31 (Or.inl rfl) ha rfl rfl dX1_copyFrom_45 ?_
    refine r_letI hF (fun I19 hF => ?_)
    refine r_aload_n dX1_copyFrom_48 rfl rfl ?_
    refine r_aload_n dX1_copyFrom_49 rfl rfl ?_
    refine r_getI lk_X1_34 ha1 dX1_copyFrom_50 ?_
    refine r_putI lk_X1_34 (Or.inl rfl) ha rfl rfl dX1_copyFrom_53 ?_
    refine r_letI hF (fun I20 hF => ?_)
    refine r_aload_n dX1_copyFrom_56 rfl rfl ?_
    refine r_aload_n dX1_copyFrom_57 rfl rfl ?_
    refine r_getI lk_X1_37 ha1 dX1_copyFrom_58 ?_
    refine r_putI lk_X1_37 (Or.inl rfl) ha rfl rfl dX1_copyFrom_61 ?_
    refine r_letI hF (fun I21 hF => ?_)
    refine r_aload_n dX1_copyFrom_64 rfl rfl ?_
    refine r_aload_n dX1_copyFrom_65 rfl rfl ?_
    refine r_getI lk_X1_40 ha1 dX1_copyFrom_66 ?_
    refine r_putI lk_X1_40 (Or.inl rfl) ha rfl rfl dX1_copyFrom_69 ?_
    refine r_letI hF (fun I22 hF => ?_)
    refine r_aload_n dX1_copyFrom_72 rfl rfl ?_
    refine r_aload_n dX1_copyFrom_73 rfl rfl ?_
    refine r_getI lk_X1_43 ha1 dX1_copyFrom_74 ?_
    refine r_putI lk_X1_43 (Or.inl rfl) ha rfl rfl dX1_copyFrom_77 ?_
    refine r_letI hF (fun I23 hF => ?_)
    refine r_aload_n dX1_copyFrom_80 rfl rfl ?_
    refine r_aload_n dX1_copyFrom_81 rfl rfl ?_
    refine r_getI lk_X1_46 ha1 dX1_copyFrom_82 ?_
    refine r_putI lk_X1_46 (Or.inl rfl) ha rfl rfl dX1_copyFrom_85 ?_
    refine r_letI hF (fun I24 hF => ?_)
    obtain rfl := Option.some.inj hF
    exact p_return rfl dX1_copyFrom_88 hL (Nat.le_of_ble_eq_true rfl) (Nat.le_of_ble_eq_true rfl)
def F_X10_copyFrom (T : TM) (I : IM) (P : PM) (w : Nat) (w1 : Nat) : Option (IM × PM) := (if fOk T (P (w1 + 1)) 6 = true then (letb (va_up P (w + 1) (va_cpy (P (w1 + 1)) (P (w + 1)) 0 0 6)) (fun P2 : PM => (letb (up2 I w 1 (I w1 1)) (fun I3 : IM => (letb (va_up I3 (w + 2) (va_cpy (I3 (w1 + 2)) (I3 (w + 2)) 0 0 6)) (fun I4 : IM => (letb (va_up I4 (w + 3) (va_cpy (I4 (w1 + 3)) (I4 (w + 3)) 0 0 5)) (fun I5 : IM => ((F_X1_copyFrom I5 P2 (w + 4) (w1 + 4)).bind (fun x6 => (letb (up2 x6.1 w 5 (x6.1 w1 5)) (fun I7 : IM => (some (I7, x6.2)))))))))))))) else none)
set_option maxHeartbeats 4000000 in
theorem ok_X10_copyFrom {E : GE} {T : TM} {I : IM} {J : JM} {P : PM} {w : Nat} {w1 : Nat} {x : IM × PM} (hL : LOK T P) (hw : isW w) (hw1 : isW w1) (hF : F_X10_copyFrom T I P w w1 = some x) : CtrP E (LOK T x.2) mX10_copyFrom 1 0 0 [.ref w, .ref w1] T I J P none T x.1 J x.2 := by
  unfold F_X10_copyFrom at hF
  refine ctrP_intro (by decide) (Nat.le_of_ble_eq_true rfl) ?_
  refine r_sub (ls' := [(1, .ref w1), (0, .ref w)]) [1, 0] rfl ?_
  refine r_aload_n dX10_copyFrom_0 rfl rfl ?_
  refine r_getP lk_X10_11 (wn_0 hL hw1) (wp_0 hL hw1) dX10_copyFrom_1 ?_
  refine r_iconst (v := 0) dX10_copyFrom_4 (by decide) ?_
  refine r_aload_n dX10_copyFrom_5 rfl rfl ?_
  refine r_getP lk_X10_11 (wn_0 hL hw) (wp_0 hL hw) dX10_copyFrom_6 ?_
  refine r_iconst (v := 0) dX10_copyFrom_9 (by decide) ?_
  refine r_bipush (v := 6) dX10_copyFrom_10 (by decide) ?_
  obtain ⟨g1, hF⟩ := gd hF
  refine r_copyF6 (wn_1 hL hw1) (wn_1 hL hw) g1 (by decide) (by rw [(wl_1 hL hw1)]; decide) (by rw [(wl_1 hL hw)]; decide) ⟨Nat.le_of_ble_eq_true rfl, Nat.le_of_ble_eq_true rfl⟩ kw_250 kw_252 kw_251 kw_8 dX10_copyFrom_12 ?_
  refine r_letP hF (fun P2 eP2 hF => ?_)
  have hL : LOK T P2 := by rw [eP2]; exact hL.row (wn_1 hL hw) (Or.inr rfl)
  refine r_aload_n dX10_copyFrom_15 rfl rfl ?_
  refine r_aload_n dX10_copyFrom_16 rfl rfl ?_
  refine r_getI lk_X10_41 (wn_0 hL hw1) dX10_copyFrom_17 ?_
  refine r_putI lk_X10_41 (Or.inl rfl) (wn_0 hL hw) rfl rfl dX10_copyFrom_20 ?_
  refine r_letI hF (fun I3 hF => ?_)
  refine r_aload_n dX10_copyFrom_23 rfl rfl ?_
  refine r_getP lk_X10_17 (wn_0 hL hw1) (wp_2 hL hw1) dX10_copyFrom_24 ?_
  refine r_iconst (v := 0) dX10_copyFrom_27 (by decide) ?_
  refine r_aload_n dX10_copyFrom_28 rfl rfl ?_
  refine r_getP lk_X10_17 (wn_0 hL hw) (wp_2 hL hw) dX10_copyFrom_29 ?_
  refine r_iconst (v := 0) dX10_copyFrom_32 (by decide) ?_
  refine r_bipush (v := 6) dX10_copyFrom_33 (by decide) ?_
  refine r_copyI (wn_2 hL hw1) (wn_2 hL hw) (by decide) (by rw [(wl_2 hL hw1)]; decide) (by rw [(wl_2 hL hw)]; decide) ⟨Nat.le_of_ble_eq_true rfl, Nat.le_of_ble_eq_true rfl⟩ kw_250 kw_252 kw_251 kw_8 dX10_copyFrom_35 ?_
  refine r_letI hF (fun I4 hF => ?_)
  refine r_aload_n dX10_copyFrom_38 rfl rfl ?_
  refine r_getP lk_X10_21 (wn_0 hL hw1) (wp_3 hL hw1) dX10_copyFrom_39 ?_
  refine r_iconst (v := 0) dX10_copyFrom_42 (by decide) ?_
  refine r_aload_n dX10_copyFrom_43 rfl rfl ?_
  refine r_getP lk_X10_21 (wn_0 hL hw) (wp_3 hL hw) dX10_copyFrom_44 ?_
  refine r_iconst (v := 0) dX10_copyFrom_47 (by decide) ?_
  refine r_iconst (v := 5) dX10_copyFrom_48 (by decide) ?_
  refine r_copyI (wn_3 hL hw1) (wn_3 hL hw) (by decide) (by rw [(wl_3 hL hw1)]; decide) (by rw [(wl_3 hL hw)]; decide) ⟨Nat.le_of_ble_eq_true rfl, Nat.le_of_ble_eq_true rfl⟩ kw_250 kw_252 kw_251 kw_8 dX10_copyFrom_49 ?_
  refine r_letI hF (fun I5 hF => ?_)
  refine r_aload_n dX10_copyFrom_52 rfl rfl ?_
  refine r_getP lk_X10_27 (wn_0 hL hw) (wp_4 hL hw) dX10_copyFrom_53 ?_
  refine r_aload_n dX10_copyFrom_56 rfl rfl ?_
  refine r_getP lk_X10_27 (wn_0 hL hw1) (wp_4 hL hw1) dX10_copyFrom_57 ?_
  obtain ⟨x6, hx6, hF⟩ := bnd hF
  refine cp_virt_v (As := [.ref (w1 + 4)]) mi_X1_copyFrom kw_254 kw_255 kw_253 rfl (by decide) (wn_4 hL hw) (ok_X1_copyFrom hL (wn_4 hL hw) (wn_4 hL hw1) hx6) rfl rfl (Nat.le_of_ble_eq_true rfl) ⟨Nat.le_of_ble_eq_true rfl, Nat.le_of_ble_eq_true rfl⟩ ⟨Nat.le_of_ble_eq_true rfl, Nat.le_of_ble_eq_true rfl⟩ dX10_copyFrom_60 ?_
  intro hL
  refine r_aload_n dX10_copyFrom_63 rfl rfl ?_
  refine r_aload_n dX10_copyFrom_64 rfl rfl ?_
  refine r_getI lk_X10_31 (wn_0 hL hw1) dX10_copyFrom_65 ?_
  refine r_putI lk_X10_31 (Or.inl rfl) (wn_0 hL hw) rfl rfl dX10_copyFrom_68 ?_
  refine r_letI hF (fun I7 hF => ?_)
  obtain rfl := Option.some.inj hF
  exact p_return rfl dX10_copyFrom_71 hL (Nat.le_of_ble_eq_true rfl) (Nat.le_of_ble_eq_true rfl)
def F_X10_clearCards (I : IM) (P : PM) (w : Nat) : Option (IM × PM) := (letb (up2 I w 1 0) (fun I1 : IM => (letb (up2 P (w + 4) 0 none) (fun P2 : PM => (some (I1, P2))))))
set_option maxHeartbeats 4000000 in
theorem ok_X10_clearCards {E : GE} {T : TM} {I : IM} {J : JM} {P : PM} {w : Nat} {x : IM × PM} (hL : LOK T P) (hw : isW w) (hF : F_X10_clearCards I P w = some x) : CtrP E (LOK T x.2) mX10_clearCards 0 0 0 [.ref w] T I J P none T x.1 J x.2 := by
  unfold F_X10_clearCards at hF
  refine ctrP_intro (by decide) (Nat.le_of_ble_eq_true rfl) ?_
  refine r_sub (ls' := [(0, .ref w)]) [0] rfl ?_
  refine r_aload_n dX10_clearCards_0 rfl rfl ?_
  refine r_iconst (v := 0) dX10_clearCards_1 (by decide) ?_
  refine r_putI lk_X10_41 (Or.inl rfl) (wn_0 hL hw) rfl rfl dX10_clearCards_2 ?_
  refine r_letI hF (fun I1 hF => ?_)
  refine r_aload_n dX10_clearCards_5 rfl rfl ?_
  refine r_getP lk_X10_27 (wn_0 hL hw) (wp_4 hL hw) dX10_clearCards_6 ?_
  refine r_null dX10_clearCards_9 ?_
  refine r_putN lk_X10_48 (Or.inl rfl) (wn_4 hL hw) rfl rfl dX10_clearCards_10 ?_
  refine r_letP hF (fun P2 eP2 hF => ?_)
  have hL : LOK T P2 := by rw [eP2]; exact hL.up (wn_4 hL hw) (Or.inl rfl)
  obtain rfl := Option.some.inj hF
  exact p_return rfl dX10_clearCards_13 hL (Nat.le_of_ble_eq_true rfl) (Nat.le_of_ble_eq_true rfl)
def G_X6_skipBlanks_0 (N : Nat) : Nat → IM → Option (IM)
  | 0, _ => none
  | n + 1, Iv => (if (Iv 80 1) ≤ (Iv 80 2) then (some Iv) else (if inb (Iv 80 2) 200 = true then (if (Iv 81 (Iv 80 2).toNatClampNeg) = 32 then (letb (up2 Iv 80 2 ((Iv 80 2) + 1)) (fun I6 : IM => (G_X6_skipBlanks_0 N n I6))) else (some Iv)) else none))
set_option maxHeartbeats 4000000 in
theorem okG_X6_skipBlanks_0 {E : GE} {T : TM} {J : JM} {P : PM} {N : Nat} {x : IM} (hL : LOK T P) : ∀ (n : Nat) (Iv : IM), G_X6_skipBlanks_0 N n Iv = some x → WW E mX6_skipBlanks (RM 0 0 0) (ZM E 0 0 none T x J P) 0 0 T Iv J P 0 [(0, .ref 80)] [] := by
  intro n
  induction n with
  | zero =>
    intro Iv hF
    cases hF
  | succ n ih =>
    intro Iv hF
    rw [G_X6_skipBlanks_0] at hF
    refine r_aload_n dX6_skipBlanks_0 rfl rfl ?_
    refine r_getI lk_X6_19 (ln_80 hL) dX6_skipBlanks_1 ?_
    refine r_aload_n dX6_skipBlanks_4 rfl rfl ?_
    refine r_getI lk_X6_15 (ln_80 hL) dX6_skipBlanks_5 ?_
    refine r_icmp_ge (tgt := 38) dX6_skipBlanks_8 (by decide) (fun h2 => ?_) (fun h2 => ?_)
    · have hF := tw hF h2
      obtain rfl := Option.some.inj hF
      exact r_return rfl dX6_skipBlanks_38 (Nat.le_of_ble_eq_true rfl) (Nat.le_of_ble_eq_true rfl)
    · have hF := fw hF h2
      refine r_aload_n dX6_skipBlanks_11 rfl rfl ?_
      refine r_getP lk_X6_9 (ln_80 hL) (pp_80_0 hL) dX6_skipBlanks_12 ?_
      refine r_aload_n dX6_skipBlanks_15 rfl rfl ?_
      refine r_getI lk_X6_19 (ln_80 hL) dX6_skipBlanks_16 ?_
      obtain ⟨g3, hF⟩ := gd hF
      refine r_bald (ln_81 hL) (by rw [(nl_81 hL)]; exact g3) dX6_skipBlanks_19 ?_
      refine r_bipush (v := 32) dX6_skipBlanks_20 (by decide) ?_
      refine r_icmp_ne (tgt := 38) dX6_skipBlanks_22 (by decide) (fun h5 => ?_) (fun h5 => ?_)
      · have hF := fw hF h5
        obtain rfl := Option.some.inj hF
        exact r_return rfl dX6_skipBlanks_38 (Nat.le_of_ble_eq_true rfl) (Nat.le_of_ble_eq_true rfl)
      · have hF := tw hF h5
        refine r_aload_n dX6_skipBlanks_25 rfl rfl ?_
        refine r_dup dX6_skipBlanks_26 rfl ?_
        refine r_getI lk_X6_19 (ln_80 hL) dX6_skipBlanks_27 ?_
        refine r_iconst (v := 1) dX6_skipBlanks_30 (by decide) ?_
        refine r_iadd dX6_skipBlanks_31 ?_
        refine r_putI lk_X6_19 (Or.inl rfl) (ln_80 hL) rfl rfl dX6_skipBlanks_32 ?_
        refine r_letI hF (fun I6 hF => ?_)
        refine r_goto (tgt := 0) dX6_skipBlanks_35 (by decide) ?_
        refine r_sub (ls' := [(0, .ref 80)]) [0] rfl ?_
        exact ih I6 hF
def F_X6_skipBlanks (N : Nat) (I : IM) : Option (IM) := (G_X6_skipBlanks_0 N N I)
set_option maxHeartbeats 4000000 in
theorem ok_X6_skipBlanks {E : GE} {T : TM} {I : IM} {J : JM} {P : PM} {N : Nat} {x : IM} (hL : LOK T P) (hF : F_X6_skipBlanks N I = some x) : Ctr E mX6_skipBlanks 0 0 0 [.ref 80] T I J P none T x J P := by
  unfold F_X6_skipBlanks at hF
  refine ctr_intro rfl (by decide +kernel) (Nat.le_of_ble_eq_true rfl) ?_
  refine r_sub (ls' := [(0, .ref 80)]) [0] rfl ?_
  refine r_sub (ls' := [(0, .ref 80)]) [0] rfl ?_
  exact okG_X6_skipBlanks_0 hL   N I hF
def F_X6_isGood (I : IM) : Int32 := (if (I 80 3) = (-1) then 1 else 0)
set_option maxHeartbeats 4000000 in
theorem ok_X6_isGood {E : GE} {T : TM} {I : IM} {J : JM} {P : PM} (hL : LOK T P) : Ctr E mX6_isGood 0 0 0 [.ref 80] T I J P (some (.int (F_X6_isGood I))) T I J P := by
  generalize hF : F_X6_isGood I = r
  unfold F_X6_isGood at hF
  refine ctr_intro rfl (by decide +kernel) (Nat.le_of_ble_eq_true rfl) ?_
  refine r_sub (ls' := [(0, .ref 80)]) [0] rfl ?_
  refine r_aload_n dX6_isGood_0 rfl rfl ?_
  refine r_getI lk_X6_22 (ln_80 hL) dX6_isGood_1 ?_
  refine r_iconst (v := (-1)) dX6_isGood_4 (by decide) ?_
  refine r_icmp_ne (tgt := 12) dX6_isGood_5 (by decide) (fun h1 => ?_) (fun h1 => ?_)
  · have hF := fw hF h1
    refine r_iconst (v := 0) dX6_isGood_12 (by decide) ?_
    obtain rfl := hF
    exact r_ireturn (x := 0) rfl rfl dX6_isGood_13 (Nat.le_of_ble_eq_true rfl) (Nat.le_of_ble_eq_true rfl)
  · have hF := tw hF h1
    refine r_iconst (v := 1) dX6_isGood_8 (by decide) ?_
    refine r_goto (tgt := 13) dX6_isGood_9 (by decide) ?_
    obtain rfl := hF
    exact r_ireturn (x := 1) rfl rfl dX6_isGood_13 (Nat.le_of_ble_eq_true rfl) (Nat.le_of_ble_eq_true rfl)
theorem nz_X6_isGood (I : IM) : narrow .boolean (.int (F_X6_isGood I)) = .int (F_X6_isGood I) := by
  unfold F_X6_isGood
  repeat' split
  all_goals first | rfl
def F_X6_lawName (p1 : Int32) : Nat := (if p1 = 0 then 0 else (if p1 = 1 then 1 else (if p1 = 2 then 2 else (if p1 = 3 then 3 else (if p1 = 4 then 4 else 5)))))
set_option maxHeartbeats 4000000 in
theorem ok_X6_lawName {E : GE} {T : TM} {I : IM} {J : JM} {P : PM} {p1 : Int32} (hL : LOK T P) : Ctr E mX6_lawName 0 0 0 [.int p1] T I J P (some (.ref (F_X6_lawName p1))) T I J P := by
  generalize hF : F_X6_lawName p1 = r
  unfold F_X6_lawName at hF
  refine ctr_intro rfl (by decide +kernel) (Nat.le_of_ble_eq_true rfl) ?_
  refine r_sub (ls' := [(0, .int p1)]) [0] rfl ?_
  refine r_iload_n dX6_lawName_0 rfl rfl ?_
  by_cases h1 : p1 = 0
  · have hF := tw hF h1
    refine r_tableIn (off := 35) (tgt := 36) dX6_lawName_1 (by rw [h1]; decide) (by rw [h1]; decide) (by rw [h1]; decide) (by decide) ?_
    refine r_ldcS (i := 0) (by decide) rfl rfl dX6_lawName_36 ?_
    obtain rfl := hF
    exact r_areturn rfl dX6_lawName_38 (Nat.le_of_ble_eq_true rfl) (Nat.le_of_ble_eq_true rfl)
  · have hF := fw hF h1
    by_cases h2 : p1 = 1
    · have hF := tw hF h2
      refine r_tableIn (off := 38) (tgt := 39) dX6_lawName_1 (by rw [h2]; decide) (by rw [h2]; decide) (by rw [h2]; decide) (by decide) ?_
      refine r_ldcS (i := 1) (by decide) rfl rfl dX6_lawName_39 ?_
      obtain rfl := hF
      exact r_areturn rfl dX6_lawName_41 (Nat.le_of_ble_eq_true rfl) (Nat.le_of_ble_eq_true rfl)
    · have hF := fw hF h2
      by_cases h3 : p1 = 2
      · have hF := tw hF h3
        refine r_tableIn (off := 41) (tgt := 42) dX6_lawName_1 (by rw [h3]; decide) (by rw [h3]; decide) (by rw [h3]; decide) (by decide) ?_
        refine r_ldcS (i := 2) (by decide) rfl rfl dX6_lawName_42 ?_
        obtain rfl := hF
        exact r_areturn rfl dX6_lawName_44 (Nat.le_of_ble_eq_true rfl) (Nat.le_of_ble_eq_true rfl)
      · have hF := fw hF h3
        by_cases h4 : p1 = 3
        · have hF := tw hF h4
          refine r_tableIn (off := 44) (tgt := 45) dX6_lawName_1 (by rw [h4]; decide) (by rw [h4]; decide) (by rw [h4]; decide) (by decide) ?_
          refine r_ldcS (i := 3) (by decide) rfl rfl dX6_lawName_45 ?_
          obtain rfl := hF
          exact r_areturn rfl dX6_lawName_47 (Nat.le_of_ble_eq_true rfl) (Nat.le_of_ble_eq_true rfl)
        · have hF := fw hF h4
          by_cases h5 : p1 = 4
          · have hF := tw hF h5
            refine r_tableIn (off := 47) (tgt := 48) dX6_lawName_1 (by rw [h5]; decide) (by rw [h5]; decide) (by rw [h5]; decide) (by decide) ?_
            refine r_ldcS (i := 4) (by decide) rfl rfl dX6_lawName_48 ?_
            obtain rfl := hF
            exact r_areturn rfl dX6_lawName_50 (Nat.le_of_ble_eq_true rfl) (Nat.le_of_ble_eq_true rfl)
          · have hF := fw hF h5
            have eh1 := nei 0 (by decide) h1
            have eh2 := nei 1 (by decide) h2
            have eh3 := nei 2 (by decide) h3
            have eh4 := nei 3 (by decide) h4
            have eh5 := nei 4 (by decide) h5
            refine r_tableOut (tgt := 51) dX6_lawName_1 (by omega) (by decide) ?_
            refine r_ldcS (i := 5) (by decide) rfl rfl dX6_lawName_51 ?_
            obtain rfl := hF
            exact r_areturn rfl dX6_lawName_53 (Nat.le_of_ble_eq_true rfl) (Nat.le_of_ble_eq_true rfl)
theorem lt_X6_lawName (p1 : Int32) : F_X6_lawName p1 < 15 := by
  unfold F_X6_lawName
  repeat' split
  all_goals decide
def F_X6_isBetween (I : IM) (p1 : Int32) (p2 : Int32) (p3 : Int32) : Option (Int32) := (if p1 < 0 then (some 0) else (if (I 80 1) ≤ p1 then (some 0) else (if inb p1 200 = true then (if (I 81 p1.toNatClampNeg) < p2 then (some 0) else (if inb p1 200 = true then (if p3 < (I 81 p1.toNatClampNeg) then (some 0) else (some 1)) else none)) else none)))
set_option maxHeartbeats 4000000 in
theorem ok_X6_isBetween {E : GE} {T : TM} {I : IM} {J : JM} {P : PM} {p1 : Int32} {p2 : Int32} {p3 : Int32} {x : Int32} (hL : LOK T P) (hF : F_X6_isBetween I p1 p2 p3 = some x) : Ctr E mX6_isBetween 0 0 0 [.ref 80, .int p1, .int p2, .int p3] T I J P (some (.int x)) T I J P := by
  unfold F_X6_isBetween at hF
  refine ctr_intro rfl (by decide +kernel) (Nat.le_of_ble_eq_true rfl) ?_
  refine r_sub (ls' := [(3, .int p3), (2, .int p2), (1, .int p1), (0, .ref 80)]) [3, 2, 1, 0] rfl ?_
  refine r_iload_n dX6_isBetween_0 rfl rfl ?_
  refine r_if_lt (tgt := 36) dX6_isBetween_1 (by decide) (fun h1 => ?_) (fun h1 => ?_)
  · have hF := tw hF h1
    refine r_iconst (v := 0) dX6_isBetween_36 (by decide) ?_
    obtain rfl := Option.some.inj hF
    exact r_ireturn (x := 0) rfl rfl dX6_isBetween_37 (Nat.le_of_ble_eq_true rfl) (Nat.le_of_ble_eq_true rfl)
  · have hF := fw hF h1
    refine r_iload_n dX6_isBetween_4 rfl rfl ?_
    refine r_aload_n dX6_isBetween_5 rfl rfl ?_
    refine r_getI lk_X6_15 (ln_80 hL) dX6_isBetween_6 ?_
    refine r_icmp_ge (tgt := 36) dX6_isBetween_9 (by decide) (fun h2 => ?_) (fun h2 => ?_)
    · have hF := tw hF h2
      refine r_iconst (v := 0) dX6_isBetween_36 (by decide) ?_
      obtain rfl := Option.some.inj hF
      exact r_ireturn (x := 0) rfl rfl dX6_isBetween_37 (Nat.le_of_ble_eq_true rfl) (Nat.le_of_ble_eq_true rfl)
    · have hF := fw hF h2
      refine r_aload_n dX6_isBetween_12 rfl rfl ?_
      refine r_getP lk_X6_9 (ln_80 hL) (pp_80_0 hL) dX6_isBetween_13 ?_
      refine r_iload_n dX6_isBetween_16 rfl rfl ?_
      obtain ⟨g3, hF⟩ := gd hF
      refine r_bald (ln_81 hL) (by rw [(nl_81 hL)]; exact g3) dX6_isBetween_17 ?_
      refine r_iload_n dX6_isBetween_18 rfl rfl ?_
      refine r_icmp_lt (tgt := 36) dX6_isBetween_19 (by decide) (fun h4 => ?_) (fun h4 => ?_)
      · have hF := tw hF h4
        refine r_iconst (v := 0) dX6_isBetween_36 (by decide) ?_
        obtain rfl := Option.some.inj hF
        exact r_ireturn (x := 0) rfl rfl dX6_isBetween_37 (Nat.le_of_ble_eq_true rfl) (Nat.le_of_ble_eq_true rfl)
      · have hF := fw hF h4
        refine r_aload_n dX6_isBetween_22 rfl rfl ?_
        refine r_getP lk_X6_9 (ln_80 hL) (pp_80_0 hL) dX6_isBetween_23 ?_
        refine r_iload_n dX6_isBetween_26 rfl rfl ?_
        obtain ⟨g5, hF⟩ := gd hF
        refine r_bald (ln_81 hL) (by rw [(nl_81 hL)]; exact g5) dX6_isBetween_27 ?_
        refine r_iload_n dX6_isBetween_28 rfl rfl ?_
        refine r_icmp_gt (tgt := 36) dX6_isBetween_29 (by decide) (fun h6 => ?_) (fun h6 => ?_)
        · have hF := tw hF h6
          refine r_iconst (v := 0) dX6_isBetween_36 (by decide) ?_
          obtain rfl := Option.some.inj hF
          exact r_ireturn (x := 0) rfl rfl dX6_isBetween_37 (Nat.le_of_ble_eq_true rfl) (Nat.le_of_ble_eq_true rfl)
        · have hF := fw hF h6
          refine r_iconst (v := 1) dX6_isBetween_32 (by decide) ?_
          refine r_goto (tgt := 37) dX6_isBetween_33 (by decide) ?_
          obtain rfl := Option.some.inj hF
          exact r_ireturn (x := 1) rfl rfl dX6_isBetween_37 (Nat.le_of_ble_eq_true rfl) (Nat.le_of_ble_eq_true rfl)
def G_X6_passName_45 (N : Nat) (I : IM) (k : Nat) (u2 : Int32) : Nat → Int32 → Option (Int32 × IM)
  | 0, _ => none
  | n + 1, u3 => (if (nI (strLn.getD k 0)) ≤ u3 then (letb (up2 I 80 2 u2) (fun I8 : IM => (some (1, I8)))) else (if inb ((I 80 2) + u3) 200 = true then (if inb u3 (strLn.getD k 0) = true then (if (I 81 ((I 80 2) + u3).toNatClampNeg) = (strCh k u3) then (G_X6_passName_45 N I k u2 n (u3 + 1)) else (some (0, I))) else none) else none))
set_option maxHeartbeats 4000000 in
theorem okG_X6_passName_45 {E : GE} {T : TM} {I : IM} {J : JM} {P : PM} {k : Nat} {N : Nat} {u2 : Int32} {x : Int32 × IM} (hL : LOK T P) (hk : k < 15) : ∀ (n : Nat) (u3 : Int32), G_X6_passName_45 N I k u2 n u3 = some x → WW E mX6_passName (RM 4 0 0) (ZM E 0 0 (some (.int x.1)) T x.2 J P) 0 0 T I J P 45 [(0, .ref 80), (1, .ref k), (2, .int u2), (3, .int u3)] [] := by
  intro n
  induction n with
  | zero =>
    intro u3 hF
    cases hF
  | succ n ih =>
    intro u3 hF
    rw [G_X6_passName_45] at hF
    refine r_iload_n dX6_passName_45 rfl rfl ?_
    refine r_aload_n dX6_passName_46 rfl rfl ?_
    refine r_virtS (As := []) hk mi_J0_length_8abf5 kw_291 kw_292 kw_290 (ok_J0_length hk) rfl rfl (Nat.le_of_ble_eq_true rfl) ⟨Nat.le_of_ble_eq_true rfl, Nat.le_of_ble_eq_true rfl⟩ ⟨Nat.le_of_ble_eq_true rfl, Nat.le_of_ble_eq_true rfl⟩ dX6_passName_47 ?_
    refine r_show (st2 := .int (nI (strLn.getD k 0)) :: _) rfl ?_
    refine r_icmp_ge (tgt := 80) dX6_passName_50 (by decide) (fun h7 => ?_) (fun h7 => ?_)
    · have hF := tw hF h7
      refine r_aload_n dX6_passName_80 rfl rfl ?_
      refine r_iload_n dX6_passName_81 rfl rfl ?_
      refine r_putI lk_X6_19 (Or.inl rfl) (ln_80 hL) rfl rfl dX6_passName_82 ?_
      refine r_letI hF (fun I8 hF => ?_)
      refine r_iconst (v := 1) dX6_passName_85 (by decide) ?_
      obtain rfl := Option.some.inj hF
      exact r_ireturn (x := 1) rfl rfl dX6_passName_86 (Nat.le_of_ble_eq_true rfl) (Nat.le_of_ble_eq_true rfl)
    · have hF := fw hF h7
      refine r_aload_n dX6_passName_53 rfl rfl ?_
      refine r_getP lk_X6_9 (ln_80 hL) (pp_80_0 hL) dX6_passName_54 ?_
      refine r_aload_n dX6_passName_57 rfl rfl ?_
      refine r_getI lk_X6_19 (ln_80 hL) dX6_passName_58 ?_
      refine r_iload_n dX6_passName_61 rfl rfl ?_
      refine r_iadd dX6_passName_62 ?_
      obtain ⟨g9, hF⟩ := gd hF
      refine r_bald (ln_81 hL) (by rw [(nl_81 hL)]; exact g9) dX6_passName_63 ?_
      refine r_aload_n dX6_passName_64 rfl rfl ?_
      refine r_iload_n dX6_passName_65 rfl rfl ?_
      obtain ⟨g10, hF⟩ := gd hF
      refine r_virtS (As := [.int u3]) hk mi_J0_charAt_5068e kw_305 kw_306 kw_304 (ok_J0_charAt hk g10 (inb_lo g10) (inb_hi hk g10)) rfl rfl (Nat.le_of_ble_eq_true rfl) ⟨Nat.le_of_ble_eq_true rfl, Nat.le_of_ble_eq_true rfl⟩ ⟨Nat.le_of_ble_eq_true rfl, Nat.le_of_ble_eq_true rfl⟩ dX6_passName_66 ?_
      refine r_show (st2 := .int (strCh k u3) :: _) rfl ?_
      refine r_icmp_eq (tgt := 74) dX6_passName_69 (by decide) (fun h11 => ?_) (fun h11 => ?_)
      · have hF := tw hF h11
        refine r_iinc (v := (u3 + 1)) (ls' := [(3, .int (u3 + 1)), (0, .ref 80), (1, .ref k), (2, .int u2)]) dX6_passName_74 rfl rfl (by decide) rfl ?_
        refine r_goto (tgt := 45) dX6_passName_77 (by decide) ?_
        refine r_sub (ls' := [(0, .ref 80), (1, .ref k), (2, .int u2), (3, .int (u3 + 1))]) [1, 2, 3, 0] rfl ?_
        exact ih (u3 + 1) hF
      · have hF := fw hF h11
        refine r_iconst (v := 0) dX6_passName_72 (by decide) ?_
        obtain rfl := Option.some.inj hF
        exact r_ireturn (x := 0) rfl rfl dX6_passName_73 (Nat.le_of_ble_eq_true rfl) (Nat.le_of_ble_eq_true rfl)
def F_X6_passName (N : Nat) (I : IM) (k : Nat) : Option (Int32 × IM) := ((F_X6_skipBlanks N I).bind (fun x1 => (letb ((x1 80 2) + (nI (strLn.getD k 0))) (fun y2 : Int32 => (if (F_X6_isGood x1) = 0 then (some (0, x1)) else (if (x1 80 1) < y2 then (some (0, x1)) else ((F_X6_isBetween x1 y2 97 122).bind (fun x5 => (if x5 = 0 then (G_X6_passName_45 N x1 k y2 N 0) else (some (0, x1)))))))))))
set_option maxHeartbeats 4000000 in
theorem ok_X6_passName {E : GE} {T : TM} {I : IM} {J : JM} {P : PM} {k : Nat} {N : Nat} {x : Int32 × IM} (hL : LOK T P) (hk : k < 15) (hF : F_X6_passName N I k = some x) : Ctr E mX6_passName 4 0 0 [.ref 80, .ref k] T I J P (some (.int x.1)) T x.2 J P := by
  unfold F_X6_passName at hF
  refine ctr_intro rfl (by decide +kernel) (Nat.le_of_ble_eq_true rfl) ?_
  refine r_sub (ls' := [(1, .ref k), (0, .ref 80)]) [1, 0] rfl ?_
  refine r_aload_n dX6_passName_0 rfl rfl ?_
  obtain ⟨x1, hx1, hF⟩ := bnd hF
  refine c_virt_v (As := []) mi_X6_skipBlanks kw_267 ks_0 kw_265 rfl (by decide) (ln_80 hL) (ok_X6_skipBlanks hL  hx1) rfl rfl (Nat.le_of_ble_eq_true rfl) ⟨Nat.le_of_ble_eq_true rfl, Nat.le_of_ble_eq_true rfl⟩ ⟨Nat.le_of_ble_eq_true rfl, Nat.le_of_ble_eq_true rfl⟩ dX6_passName_1 ?_
  refine r_aload_n dX6_passName_4 rfl rfl ?_
  refine r_getI lk_X6_19 (ln_80 hL) dX6_passName_5 ?_
  refine r_aload_n dX6_passName_8 rfl rfl ?_
  refine r_virtS (As := []) hk mi_J0_length_8abf5 kw_291 kw_292 kw_290 (ok_J0_length hk) rfl rfl (Nat.le_of_ble_eq_true rfl) ⟨Nat.le_of_ble_eq_true rfl, Nat.le_of_ble_eq_true rfl⟩ ⟨Nat.le_of_ble_eq_true rfl, Nat.le_of_ble_eq_true rfl⟩ dX6_passName_9 ?_
  refine r_show (st2 := .int (nI (strLn.getD k 0)) :: _) rfl ?_
  refine r_iadd dX6_passName_12 ?_
  refine r_letV hF (fun y2 hF => ?_)
  refine r_istore_n (ls' := [(2, .int y2), (1, .ref k), (0, .ref 80)]) dX6_passName_13 rfl (by decide) rfl ?_
  refine r_aload_n dX6_passName_14 rfl rfl ?_
  refine c_virt_i (As := []) mi_X6_isGood kw_271 ks_1 kw_269 rfl (by decide) (ln_80 hL) (ok_X6_isGood hL  ) rfl rfl (Nat.le_of_ble_eq_true rfl) ⟨Nat.le_of_ble_eq_true rfl, Nat.le_of_ble_eq_true rfl⟩ ⟨Nat.le_of_ble_eq_true rfl, Nat.le_of_ble_eq_true rfl⟩ dX6_passName_15 ?_
  refine r_if_eq (tgt := 41) dX6_passName_18 (by decide) (fun h3 => ?_) (fun h3 => ?_)
  · have hF := tw hF h3
    refine r_iconst (v := 0) dX6_passName_41 (by decide) ?_
    obtain rfl := Option.some.inj hF
    exact r_ireturn (x := 0) rfl rfl dX6_passName_42 (Nat.le_of_ble_eq_true rfl) (Nat.le_of_ble_eq_true rfl)
  · have hF := fw hF h3
    refine r_iload_n dX6_passName_21 rfl rfl ?_
    refine r_aload_n dX6_passName_22 rfl rfl ?_
    refine r_getI lk_X6_15 (ln_80 hL) dX6_passName_23 ?_
    refine r_icmp_gt (tgt := 41) dX6_passName_26 (by decide) (fun h4 => ?_) (fun h4 => ?_)
    · have hF := tw hF h4
      refine r_iconst (v := 0) dX6_passName_41 (by decide) ?_
      obtain rfl := Option.some.inj hF
      exact r_ireturn (x := 0) rfl rfl dX6_passName_42 (Nat.le_of_ble_eq_true rfl) (Nat.le_of_ble_eq_true rfl)
    · have hF := fw hF h4
      refine r_aload_n dX6_passName_29 rfl rfl ?_
      refine r_iload_n dX6_passName_30 rfl rfl ?_
      refine r_bipush (v := 97) dX6_passName_31 (by decide) ?_
      refine r_bipush (v := 122) dX6_passName_33 (by decide) ?_
      obtain ⟨x5, hx5, hF⟩ := bnd hF
      refine c_virt_i (As := [.int y2, .int 97, .int 122]) mi_X6_isBetween kw_302 ks_4 kw_300 rfl (by decide) (ln_80 hL) (ok_X6_isBetween hL  hx5) rfl rfl (Nat.le_of_ble_eq_true rfl) ⟨Nat.le_of_ble_eq_true rfl, Nat.le_of_ble_eq_true rfl⟩ ⟨Nat.le_of_ble_eq_true rfl, Nat.le_of_ble_eq_true rfl⟩ dX6_passName_35 ?_
      refine r_if_eq (tgt := 43) dX6_passName_38 (by decide) (fun h6 => ?_) (fun h6 => ?_)
      · have hF := tw hF h6
        refine r_iconst (v := 0) dX6_passName_43 (by decide) ?_
        refine r_istore_n (ls' := [(3, .int 0), (2, .int y2), (1, .ref k), (0, .ref 80)]) dX6_passName_44 rfl (by decide) rfl ?_
        refine r_sub (ls' := [(0, .ref 80), (1, .ref k), (2, .int y2), (3, .int 0)]) [3, 2, 1, 0] rfl ?_
        exact okG_X6_passName_45 hL hk  N 0 hF
      · have hF := fw hF h6
        refine r_iconst (v := 0) dX6_passName_41 (by decide) ?_
        obtain rfl := Option.some.inj hF
        exact r_ireturn (x := 0) rfl rfl dX6_passName_42 (Nat.le_of_ble_eq_true rfl) (Nat.le_of_ble_eq_true rfl)
def F_X6_blameHere (I : IM) : Option (IM) := (if (F_X6_isGood I) = 0 then (some I) else (letb (up2 I 80 3 (I 80 2)) (fun I3 : IM => (some I3))))
set_option maxHeartbeats 4000000 in
theorem ok_X6_blameHere {E : GE} {T : TM} {I : IM} {J : JM} {P : PM} {x : IM} (hL : LOK T P) (hF : F_X6_blameHere I = some x) : Ctr E mX6_blameHere 1 0 0 [.ref 80] T I J P none T x J P := by
  unfold F_X6_blameHere at hF
  refine ctr_intro rfl (by decide +kernel) (Nat.le_of_ble_eq_true rfl) ?_
  refine r_sub (ls' := [(0, .ref 80)]) [0] rfl ?_
  refine r_aload_n dX6_blameHere_0 rfl rfl ?_
  refine c_virt_i (As := []) mi_X6_isGood kw_271 ks_1 kw_269 rfl (by decide) (ln_80 hL) (ok_X6_isGood hL  ) rfl rfl (Nat.le_of_ble_eq_true rfl) ⟨Nat.le_of_ble_eq_true rfl, Nat.le_of_ble_eq_true rfl⟩ ⟨Nat.le_of_ble_eq_true rfl, Nat.le_of_ble_eq_true rfl⟩ dX6_blameHere_1 ?_
  refine r_if_eq (tgt := 15) dX6_blameHere_4 (by decide) (fun h2 => ?_) (fun h2 => ?_)
  · have hF := tw hF h2
    obtain rfl := Option.some.inj hF
    exact r_return rfl dX6_blameHere_15 (Nat.le_of_ble_eq_true rfl) (Nat.le_of_ble_eq_true rfl)
  · have hF := fw hF h2
    refine r_aload_n dX6_blameHere_7 rfl rfl ?_
    refine r_aload_n dX6_blameHere_8 rfl rfl ?_
    refine r_getI lk_X6_19 (ln_80 hL) dX6_blameHere_9 ?_
    refine r_putI lk_X6_22 (Or.inl rfl) (ln_80 hL) rfl rfl dX6_blameHere_12 ?_
    refine r_letI hF (fun I3 hF => ?_)
    obtain rfl := Option.some.inj hF
    exact r_return rfl dX6_blameHere_15 (Nat.le_of_ble_eq_true rfl) (Nat.le_of_ble_eq_true rfl)
def G_X6_readNumber_12 (N : Nat) (I : IM) (u1 : Int32) (u2 : Int32) : Nat → Int32 → Int32 → Option (Int32 × IM)
  | 0, _, _ => none
  | n + 1, u3, u4 => (if (I 80 1) ≤ u3 then (letb (u3 - (I 80 2)) (fun y5 : Int32 => (if (F_X6_isGood I) = 0 then ((F_X6_blameHere I).bind (fun x7 => (some (0, x7)))) else (if y5 < 1 then ((F_X6_blameHere I).bind (fun x9 => (some (0, x9)))) else (if 2 < y5 then ((F_X6_blameHere I).bind (fun x11 => (some (0, x11)))) else (if u4 < u1 then ((F_X6_blameHere I).bind (fun x13 => (some (0, x13)))) else (if u4 ≤ u2 then (letb (up2 I 80 2 u3) (fun I15 : IM => (some (u4, I15)))) else ((F_X6_blameHere I).bind (fun x16 => (some (0, x16))))))))))) else ((F_X6_isBetween I u3 48 57).bind (fun x17 => (if x17 = 0 then (letb (u3 - (I 80 2)) (fun y20 : Int32 => (if (F_X6_isGood I) = 0 then ((F_X6_blameHere I).bind (fun x22 => (some (0, x22)))) else (if y20 < 1 then ((F_X6_blameHere I).bind (fun x24 => (some (0, x24)))) else (if 2 < y20 then ((F_X6_blameHere I).bind (fun x26 => (some (0, x26)))) else (if u4 < u1 then ((F_X6_blameHere I).bind (fun x28 => (some (0, x28)))) else (if u4 ≤ u2 then (letb (up2 I 80 2 u3) (fun I30 : IM => (some (u4, I30)))) else ((F_X6_blameHere I).bind (fun x31 => (some (0, x31))))))))))) else (if inb u3 200 = true then (letb (if 100 < (((u4 * 10) + (I 81 u3.toNatClampNeg)) - 48) then 100 else (((u4 * 10) + (I 81 u3.toNatClampNeg)) - 48)) (fun y33 : Int32 => (G_X6_readNumber_12 N I u1 u2 n (u3 + 1) y33))) else none)))))
set_option maxHeartbeats 4000000 in
theorem okG_X6_readNumber_12 {E : GE} {T : TM} {I : IM} {J : JM} {P : PM} {N : Nat} {u1 : Int32} {u2 : Int32} {x : Int32 × IM} (hL : LOK T P) : ∀ (n : Nat) (u3 : Int32) (u4 : Int32), G_X6_readNumber_12 N I u1 u2 n u3 u4 = some x → WW E mX6_readNumber (RM 2 0 0) (ZM E 0 0 (some (.int x.1)) T x.2 J P) 0 0 T I J P 12 [(0, .ref 80), (1, .int u1), (2, .int u2), (3, .int u3), (4, .int u4)] [] := by
  intro n
  induction n with
  | zero =>
    intro u3 u4 hF
    cases hF
  | succ n ih =>
    intro u3 u4 hF
    rw [G_X6_readNumber_12] at hF
    refine r_iload_n dX6_readNumber_12 rfl rfl ?_
    refine r_aload_n dX6_readNumber_13 rfl rfl ?_
    refine r_getI lk_X6_15 (ln_80 hL) dX6_readNumber_14 ?_
    refine r_icmp_ge (tgt := 60) dX6_readNumber_17 (by decide) (fun h4 => ?_) (fun h4 => ?_)
    · have hF := tw hF h4
      refine r_iload_n dX6_readNumber_60 rfl rfl ?_
      refine r_aload_n dX6_readNumber_61 rfl rfl ?_
      refine r_getI lk_X6_19 (ln_80 hL) dX6_readNumber_62 ?_
      refine r_isub dX6_readNumber_65 ?_
      refine r_letV hF (fun y5 hF => ?_)
      refine r_istore (ls' := [(5, .int y5), (0, .ref 80), (1, .int u1), (2, .int u2), (3, .int u3), (4, .int u4)]) dX6_readNumber_66 (by decide) rfl ?_
      refine r_aload_n dX6_readNumber_68 rfl rfl ?_
      refine c_virt_i (As := []) mi_X6_isGood kw_271 ks_1 kw_269 rfl (by decide) (ln_80 hL) (ok_X6_isGood hL  ) rfl rfl (Nat.le_of_ble_eq_true rfl) ⟨Nat.le_of_ble_eq_true rfl, Nat.le_of_ble_eq_true rfl⟩ ⟨Nat.le_of_ble_eq_true rfl, Nat.le_of_ble_eq_true rfl⟩ dX6_readNumber_69 ?_
      refine r_if_eq (tgt := 99) dX6_readNumber_72 (by decide) (fun h6 => ?_) (fun h6 => ?_)
      · have hF := tw hF h6
        refine r_aload_n dX6_readNumber_99 rfl rfl ?_
        obtain ⟨x7, hx7, hF⟩ := bnd hF
        refine c_virt_v (As := []) mi_X6_blameHere kw_351 ks_6 kw_349 rfl (by decide) (ln_80 hL) (ok_X6_blameHere hL  hx7) rfl rfl (Nat.le_of_ble_eq_true rfl) ⟨Nat.le_of_ble_eq_true rfl, Nat.le_of_ble_eq_true rfl⟩ ⟨Nat.le_of_ble_eq_true rfl, Nat.le_of_ble_eq_true rfl⟩ dX6_readNumber_100 ?_
        refine r_iconst (v := 0) dX6_readNumber_103 (by decide) ?_
        obtain rfl := Option.some.inj hF
        exact r_ireturn (x := 0) rfl rfl dX6_readNumber_104 (Nat.le_of_ble_eq_true rfl) (Nat.le_of_ble_eq_true rfl)
      · have hF := fw hF h6
        refine r_iload dX6_readNumber_75 rfl ?_
        refine r_iconst (v := 1) dX6_readNumber_77 (by decide) ?_
        refine r_icmp_lt (tgt := 99) dX6_readNumber_78 (by decide) (fun h8 => ?_) (fun h8 => ?_)
        · have hF := tw hF h8
          refine r_aload_n dX6_readNumber_99 rfl rfl ?_
          obtain ⟨x9, hx9, hF⟩ := bnd hF
          refine c_virt_v (As := []) mi_X6_blameHere kw_351 ks_6 kw_349 rfl (by decide) (ln_80 hL) (ok_X6_blameHere hL  hx9) rfl rfl (Nat.le_of_ble_eq_true rfl) ⟨Nat.le_of_ble_eq_true rfl, Nat.le_of_ble_eq_true rfl⟩ ⟨Nat.le_of_ble_eq_true rfl, Nat.le_of_ble_eq_true rfl⟩ dX6_readNumber_100 ?_
          refine r_iconst (v := 0) dX6_readNumber_103 (by decide) ?_
          obtain rfl := Option.some.inj hF
          exact r_ireturn (x := 0) rfl rfl dX6_readNumber_104 (Nat.le_of_ble_eq_true rfl) (Nat.le_of_ble_eq_true rfl)
        · have hF := fw hF h8
          refine r_iload dX6_readNumber_81 rfl ?_
          refine r_iconst (v := 2) dX6_readNumber_83 (by decide) ?_
          refine r_icmp_gt (tgt := 99) dX6_readNumber_84 (by decide) (fun h10 => ?_) (fun h10 => ?_)
          · have hF := tw hF h10
            refine r_aload_n dX6_readNumber_99 rfl rfl ?_
            obtain ⟨x11, hx11, hF⟩ := bnd hF
            refine c_virt_v (As := []) mi_X6_blameHere kw_351 ks_6 kw_349 rfl (by decide) (ln_80 hL) (ok_X6_blameHere hL  hx11) rfl rfl (Nat.le_of_ble_eq_true rfl) ⟨Nat.le_of_ble_eq_true rfl, Nat.le_of_ble_eq_true rfl⟩ ⟨Nat.le_of_ble_eq_true rfl, Nat.le_of_ble_eq_true rfl⟩ dX6_readNumber_100 ?_
            refine r_iconst (v := 0) dX6_readNumber_103 (by decide) ?_
            obtain rfl := Option.some.inj hF
            exact r_ireturn (x := 0) rfl rfl dX6_readNumber_104 (Nat.le_of_ble_eq_true rfl) (Nat.le_of_ble_eq_true rfl)
          · have hF := fw hF h10
            refine r_iload dX6_readNumber_87 rfl ?_
            refine r_iload_n dX6_readNumber_89 rfl rfl ?_
            refine r_icmp_lt (tgt := 99) dX6_readNumber_90 (by decide) (fun h12 => ?_) (fun h12 => ?_)
            · have hF := tw hF h12
              refine r_aload_n dX6_readNumber_99 rfl rfl ?_
              obtain ⟨x13, hx13, hF⟩ := bnd hF
              refine c_virt_v (As := []) mi_X6_blameHere kw_351 ks_6 kw_349 rfl (by decide) (ln_80 hL) (ok_X6_blameHere hL  hx13) rfl rfl (Nat.le_of_ble_eq_true rfl) ⟨Nat.le_of_ble_eq_true rfl, Nat.le_of_ble_eq_true rfl⟩ ⟨Nat.le_of_ble_eq_true rfl, Nat.le_of_ble_eq_true rfl⟩ dX6_readNumber_100 ?_
              refine r_iconst (v := 0) dX6_readNumber_103 (by decide) ?_
              obtain rfl := Option.some.inj hF
              exact r_ireturn (x := 0) rfl rfl dX6_readNumber_104 (Nat.le_of_ble_eq_true rfl) (Nat.le_of_ble_eq_true rfl)
            · have hF := fw hF h12
              refine r_iload dX6_readNumber_93 rfl ?_
              refine r_iload_n dX6_readNumber_95 rfl rfl ?_
              refine r_icmp_le (tgt := 105) dX6_readNumber_96 (by decide) (fun h14 => ?_) (fun h14 => ?_)
              · have hF := tw hF h14
                refine r_aload_n dX6_readNumber_105 rfl rfl ?_
                refine r_iload_n dX6_readNumber_106 rfl rfl ?_
                refine r_putI lk_X6_19 (Or.inl rfl) (ln_80 hL) rfl rfl dX6_readNumber_107 ?_
                refine r_letI hF (fun I15 hF => ?_)
                refine r_iload dX6_readNumber_110 rfl ?_
                obtain rfl := Option.some.inj hF
                exact r_ireturn (x := u4) rfl rfl dX6_readNumber_112 (Nat.le_of_ble_eq_true rfl) (Nat.le_of_ble_eq_true rfl)
              · have hF := fw hF h14
                refine r_aload_n dX6_readNumber_99 rfl rfl ?_
                obtain ⟨x16, hx16, hF⟩ := bnd hF
                refine c_virt_v (As := []) mi_X6_blameHere kw_351 ks_6 kw_349 rfl (by decide) (ln_80 hL) (ok_X6_blameHere hL  hx16) rfl rfl (Nat.le_of_ble_eq_true rfl) ⟨Nat.le_of_ble_eq_true rfl, Nat.le_of_ble_eq_true rfl⟩ ⟨Nat.le_of_ble_eq_true rfl, Nat.le_of_ble_eq_true rfl⟩ dX6_readNumber_100 ?_
                refine r_iconst (v := 0) dX6_readNumber_103 (by decide) ?_
                obtain rfl := Option.some.inj hF
                exact r_ireturn (x := 0) rfl rfl dX6_readNumber_104 (Nat.le_of_ble_eq_true rfl) (Nat.le_of_ble_eq_true rfl)
    · have hF := fw hF h4
      refine r_aload_n dX6_readNumber_20 rfl rfl ?_
      refine r_iload_n dX6_readNumber_21 rfl rfl ?_
      refine r_bipush (v := 48) dX6_readNumber_22 (by decide) ?_
      refine r_bipush (v := 57) dX6_readNumber_24 (by decide) ?_
      obtain ⟨x17, hx17, hF⟩ := bnd hF
      refine c_virt_i (As := [.int u3, .int 48, .int 57]) mi_X6_isBetween kw_302 ks_4 kw_300 rfl (by decide) (ln_80 hL) (ok_X6_isBetween hL  hx17) rfl rfl (Nat.le_of_ble_eq_true rfl) ⟨Nat.le_of_ble_eq_true rfl, Nat.le_of_ble_eq_true rfl⟩ ⟨Nat.le_of_ble_eq_true rfl, Nat.le_of_ble_eq_true rfl⟩ dX6_readNumber_26 ?_
      refine r_if_eq (tgt := 60) dX6_readNumber_29 (by decide) (fun h19 => ?_) (fun h19 => ?_)
      · have hF := tw hF h19
        refine r_iload_n dX6_readNumber_60 rfl rfl ?_
        refine r_aload_n dX6_readNumber_61 rfl rfl ?_
        refine r_getI lk_X6_19 (ln_80 hL) dX6_readNumber_62 ?_
        refine r_isub dX6_readNumber_65 ?_
        refine r_letV hF (fun y20 hF => ?_)
        refine r_istore (ls' := [(5, .int y20), (0, .ref 80), (1, .int u1), (2, .int u2), (3, .int u3), (4, .int u4)]) dX6_readNumber_66 (by decide) rfl ?_
        refine r_aload_n dX6_readNumber_68 rfl rfl ?_
        refine c_virt_i (As := []) mi_X6_isGood kw_271 ks_1 kw_269 rfl (by decide) (ln_80 hL) (ok_X6_isGood hL  ) rfl rfl (Nat.le_of_ble_eq_true rfl) ⟨Nat.le_of_ble_eq_true rfl, Nat.le_of_ble_eq_true rfl⟩ ⟨Nat.le_of_ble_eq_true rfl, Nat.le_of_ble_eq_true rfl⟩ dX6_readNumber_69 ?_
        refine r_if_eq (tgt := 99) dX6_readNumber_72 (by decide) (fun h21 => ?_) (fun h21 => ?_)
        · have hF := tw hF h21
          refine r_aload_n dX6_readNumber_99 rfl rfl ?_
          obtain ⟨x22, hx22, hF⟩ := bnd hF
          refine c_virt_v (As := []) mi_X6_blameHere kw_351 ks_6 kw_349 rfl (by decide) (ln_80 hL) (ok_X6_blameHere hL  hx22) rfl rfl (Nat.le_of_ble_eq_true rfl) ⟨Nat.le_of_ble_eq_true rfl, Nat.le_of_ble_eq_true rfl⟩ ⟨Nat.le_of_ble_eq_true rfl, Nat.le_of_ble_eq_true rfl⟩ dX6_readNumber_100 ?_
          refine r_iconst (v := 0) dX6_readNumber_103 (by decide) ?_
          obtain rfl := Option.some.inj hF
          exact r_ireturn (x := 0) rfl rfl dX6_readNumber_104 (Nat.le_of_ble_eq_true rfl) (Nat.le_of_ble_eq_true rfl)
        · have hF := fw hF h21
          refine r_iload dX6_readNumber_75 rfl ?_
          refine r_iconst (v := 1) dX6_readNumber_77 (by decide) ?_
          refine r_icmp_lt (tgt := 99) dX6_readNumber_78 (by decide) (fun h23 => ?_) (fun h23 => ?_)
          · have hF := tw hF h23
            refine r_aload_n dX6_readNumber_99 rfl rfl ?_
            obtain ⟨x24, hx24, hF⟩ := bnd hF
            refine c_virt_v (As := []) mi_X6_blameHere kw_351 ks_6 kw_349 rfl (by decide) (ln_80 hL) (ok_X6_blameHere hL  hx24) rfl rfl (Nat.le_of_ble_eq_true rfl) ⟨Nat.le_of_ble_eq_true rfl, Nat.le_of_ble_eq_true rfl⟩ ⟨Nat.le_of_ble_eq_true rfl, Nat.le_of_ble_eq_true rfl⟩ dX6_readNumber_100 ?_
            refine r_iconst (v := 0) dX6_readNumber_103 (by decide) ?_
            obtain rfl := Option.some.inj hF
            exact r_ireturn (x := 0) rfl rfl dX6_readNumber_104 (Nat.le_of_ble_eq_true rfl) (Nat.le_of_ble_eq_true rfl)
          · have hF := fw hF h23
            refine r_iload dX6_readNumber_81 rfl ?_
            refine r_iconst (v := 2) dX6_readNumber_83 (by decide) ?_
            refine r_icmp_gt (tgt := 99) dX6_readNumber_84 (by decide) (fun h25 => ?_) (fun h25 => ?_)
            · have hF := tw hF h25
              refine r_aload_n dX6_readNumber_99 rfl rfl ?_
              obtain ⟨x26, hx26, hF⟩ := bnd hF
              refine c_virt_v (As := []) mi_X6_blameHere kw_351 ks_6 kw_349 rfl (by decide) (ln_80 hL) (ok_X6_blameHere hL  hx26) rfl rfl (Nat.le_of_ble_eq_true rfl) ⟨Nat.le_of_ble_eq_true rfl, Nat.le_of_ble_eq_true rfl⟩ ⟨Nat.le_of_ble_eq_true rfl, Nat.le_of_ble_eq_true rfl⟩ dX6_readNumber_100 ?_
              refine r_iconst (v := 0) dX6_readNumber_103 (by decide) ?_
              obtain rfl := Option.some.inj hF
              exact r_ireturn (x := 0) rfl rfl dX6_readNumber_104 (Nat.le_of_ble_eq_true rfl) (Nat.le_of_ble_eq_true rfl)
            · have hF := fw hF h25
              refine r_iload dX6_readNumber_87 rfl ?_
              refine r_iload_n dX6_readNumber_89 rfl rfl ?_
              refine r_icmp_lt (tgt := 99) dX6_readNumber_90 (by decide) (fun h27 => ?_) (fun h27 => ?_)
              · have hF := tw hF h27
                refine r_aload_n dX6_readNumber_99 rfl rfl ?_
                obtain ⟨x28, hx28, hF⟩ := bnd hF
                refine c_virt_v (As := []) mi_X6_blameHere kw_351 ks_6 kw_349 rfl (by decide) (ln_80 hL) (ok_X6_blameHere hL  hx28) rfl rfl (Nat.le_of_ble_eq_true rfl) ⟨Nat.le_of_ble_eq_true rfl, Nat.le_of_ble_eq_true rfl⟩ ⟨Nat.le_of_ble_eq_true rfl, Nat.le_of_ble_eq_true rfl⟩ dX6_readNumber_100 ?_
                refine r_iconst (v := 0) dX6_readNumber_103 (by decide) ?_
                obtain rfl := Option.some.inj hF
                exact r_ireturn (x := 0) rfl rfl dX6_readNumber_104 (Nat.le_of_ble_eq_true rfl) (Nat.le_of_ble_eq_true rfl)
              · have hF := fw hF h27
                refine r_iload dX6_readNumber_93 rfl ?_
                refine r_iload_n dX6_readNumber_95 rfl rfl ?_
                refine r_icmp_le (tgt := 105) dX6_readNumber_96 (by decide) (fun h29 => ?_) (fun h29 => ?_)
                · have hF := tw hF h29
                  refine r_aload_n dX6_readNumber_105 rfl rfl ?_
                  refine r_iload_n dX6_readNumber_106 rfl rfl ?_
                  refine r_putI lk_X6_19 (Or.inl rfl) (ln_80 hL) rfl rfl dX6_readNumber_107 ?_
                  refine r_letI hF (fun I30 hF => ?_)
                  refine r_iload dX6_readNumber_110 rfl ?_
                  obtain rfl := Option.some.inj hF
                  exact r_ireturn (x := u4) rfl rfl dX6_readNumber_112 (Nat.le_of_ble_eq_true rfl) (Nat.le_of_ble_eq_true rfl)
                · have hF := fw hF h29
                  refine r_aload_n dX6_readNumber_99 rfl rfl ?_
                  obtain ⟨x31, hx31, hF⟩ := bnd hF
                  refine c_virt_v (As := []) mi_X6_blameHere kw_351 ks_6 kw_349 rfl (by decide) (ln_80 hL) (ok_X6_blameHere hL  hx31) rfl rfl (Nat.le_of_ble_eq_true rfl) ⟨Nat.le_of_ble_eq_true rfl, Nat.le_of_ble_eq_true rfl⟩ ⟨Nat.le_of_ble_eq_true rfl, Nat.le_of_ble_eq_true rfl⟩ dX6_readNumber_100 ?_
                  refine r_iconst (v := 0) dX6_readNumber_103 (by decide) ?_
                  obtain rfl := Option.some.inj hF
                  exact r_ireturn (x := 0) rfl rfl dX6_readNumber_104 (Nat.le_of_ble_eq_true rfl) (Nat.le_of_ble_eq_true rfl)
      · have hF := fw hF h19
        refine r_iload dX6_readNumber_32 rfl ?_
        refine r_bipush (v := 10) dX6_readNumber_34 (by decide) ?_
        refine r_imul dX6_readNumber_36 ?_
        refine r_aload_n dX6_readNumber_37 rfl rfl ?_
        refine r_getP lk_X6_9 (ln_80 hL) (pp_80_0 hL) dX6_readNumber_38 ?_
        refine r_iload_n dX6_readNumber_41 rfl rfl ?_
        obtain ⟨g32, hF⟩ := gd hF
        refine r_bald (ln_81 hL) (by rw [(nl_81 hL)]; exact g32) dX6_readNumber_42 ?_
        refine r_iadd dX6_readNumber_43 ?_
        refine r_bipush (v := 48) dX6_readNumber_44 (by decide) ?_
        refine r_isub dX6_readNumber_46 ?_
        refine r_bipush (v := 100) dX6_readNumber_47 (by decide) ?_
        refine r_min kw_346 kw_347 kw_13 kw_348 ⟨Nat.le_of_ble_eq_true rfl, Nat.le_of_ble_eq_true rfl, Nat.le_of_ble_eq_true rfl, Nat.le_of_ble_eq_true rfl⟩ dX6_readNumber_49 ?_
        refine r_letV hF (fun y33 hF => ?_)
        refine r_istore (ls' := [(4, .int y33), (0, .ref 80), (1, .int u1), (2, .int u2), (3, .int u3)]) dX6_readNumber_52 (by decide) rfl ?_
        refine r_iinc (v := (u3 + 1)) (ls' := [(3, .int (u3 + 1)), (4, .int y33), (0, .ref 80), (1, .int u1), (2, .int u2)]) dX6_readNumber_54 rfl rfl (by decide) rfl ?_
        refine r_goto (tgt := 12) dX6_readNumber_57 (by decide) ?_
        refine r_sub (ls' := [(0, .ref 80), (1, .int u1), (2, .int u2), (3, .int (u3 + 1)), (4, .int y33)]) [2, 3, 4, 0, 1] rfl ?_
        exact ih (u3 + 1) y33 hF
def F_X6_readNumber (N : Nat) (I : IM) (p1 : Int32) (p2 : Int32) : Option (Int32 × IM) := ((F_X6_skipBlanks N I).bind (fun x1 => (letb (x1 80 2) (fun y2 : Int32 => (G_X6_readNumber_12 N x1 p1 p2 N y2 0)))))
set_option maxHeartbeats 4000000 in
theorem ok_X6_readNumber {E : GE} {T : TM} {I : IM} {J : JM} {P : PM} {p1 : Int32} {p2 : Int32} {N : Nat} {x : Int32 × IM} (hL : LOK T P) (hF : F_X6_readNumber N I p1 p2 = some x) : Ctr E mX6_readNumber 2 0 0 [.ref 80, .int p1, .int p2] T I J P (some (.int x.1)) T x.2 J P := by
  unfold F_X6_readNumber at hF
  refine ctr_intro rfl (by decide +kernel) (Nat.le_of_ble_eq_true rfl) ?_
  refine r_sub (ls' := [(2, .int p2), (1, .int p1), (0, .ref 80)]) [2, 1, 0] rfl ?_
  refine r_aload_n dX6_readNumber_0 rfl rfl ?_
  obtain ⟨x1, hx1, hF⟩ := bnd hF
  refine c_virt_v (As := []) mi_X6_skipBlanks kw_267 ks_0 kw_265 rfl (by decide) (ln_80 hL) (ok_X6_skipBlanks hL  hx1) rfl rfl (Nat.le_of_ble_eq_true rfl) ⟨Nat.le_of_ble_eq_true rfl, Nat.le_of_ble_eq_true rfl⟩ ⟨Nat.le_of_ble_eq_true rfl, Nat.le_of_ble_eq_true rfl⟩ dX6_readNumber_1 ?_
  refine r_aload_n dX6_readNumber_4 rfl rfl ?_
  refine r_getI lk_X6_19 (ln_80 hL) dX6_readNumber_5 ?_
  refine r_letV hF (fun y2 hF => ?_)
  refine r_istore_n (ls' := [(3, .int y2), (2, .int p2), (1, .int p1), (0, .ref 80)]) dX6_readNumber_8 rfl (by decide) rfl ?_
  refine r_iconst (v := 0) dX6_readNumber_9 (by decide) ?_
  refine r_istore (ls' := [(4, .int 0), (3, .int y2), (2, .int p2), (1, .int p1), (0, .ref 80)]) dX6_readNumber_10 (by decide) rfl ?_
  refine r_sub (ls' := [(0, .ref 80), (1, .int p1), (2, .int p2), (3, .int y2), (4, .int 0)]) [4, 3, 2, 1, 0] rfl ?_
  exact okG_X6_readNumber_12 hL   N y2 0 hF
def F_X6_passSign (N : Nat) (I : IM) (p1 : Int32) : Option (Int32 × IM) := ((F_X6_skipBlanks N I).bind (fun x1 => (if (F_X6_isGood x1) = 0 then (some (0, x1)) else (if (x1 80 1) ≤ (x1 80 2) then (some (0, x1)) else (if inb (x1 80 2) 200 = true then (if (x1 81 (x1 80 2).toNatClampNeg) = p1 then (letb (up2 x1 80 2 ((x1 80 2) + 1)) (fun I6 : IM => (some (1, I6)))) else (some (0, x1))) else none)))))
set_option maxHeartbeats 4000000 in
theorem ok_X6_passSign {E : GE} {T : TM} {I : IM} {J : JM} {P : PM} {p1 : Int32} {N : Nat} {x : Int32 × IM} (hL : LOK T P) (hF : F_X6_passSign N I p1 = some x) : Ctr E mX6_passSign 1 0 0 [.ref 80, .int p1] T I J P (some (.int x.1)) T x.2 J P := by
  unfold F_X6_passSign at hF
  refine ctr_intro rfl (by decide +kernel) (Nat.le_of_ble_eq_true rfl) ?_
  refine r_sub (ls' := [(1, .int p1), (0, .ref 80)]) [1, 0] rfl ?_
  refine r_aload_n dX6_passSign_0 rfl rfl ?_
  obtain ⟨x1, hx1, hF⟩ := bnd hF
  refine c_virt_v (As := []) mi_X6_skipBlanks kw_267 ks_0 kw_265 rfl (by decide) (ln_80 hL) (ok_X6_skipBlanks hL  hx1) rfl rfl (Nat.le_of_ble_eq_true rfl) ⟨Nat.le_of_ble_eq_true rfl, Nat.le_of_ble_eq_true rfl⟩ ⟨Nat.le_of_ble_eq_true rfl, Nat.le_of_ble_eq_true rfl⟩ dX6_passSign_1 ?_
  refine r_aload_n dX6_passSign_4 rfl rfl ?_
  refine c_virt_i (As := []) mi_X6_isGood kw_271 ks_1 kw_269 rfl (by decide) (ln_80 hL) (ok_X6_isGood hL  ) rfl rfl (Nat.le_of_ble_eq_true rfl) ⟨Nat.le_of_ble_eq_true rfl, Nat.le_of_ble_eq_true rfl⟩ ⟨Nat.le_of_ble_eq_true rfl, Nat.le_of_ble_eq_true rfl⟩ dX6_passSign_5 ?_
  refine r_if_eq (tgt := 35) dX6_passSign_8 (by decide) (fun h2 => ?_) (fun h2 => ?_)
  · have hF := tw hF h2
    refine r_iconst (v := 0) dX6_passSign_35 (by decide) ?_
    obtain rfl := Option.some.inj hF
    exact r_ireturn (x := 0) rfl rfl dX6_passSign_36 (Nat.le_of_ble_eq_true rfl) (Nat.le_of_ble_eq_true rfl)
  · have hF := fw hF h2
    refine r_aload_n dX6_passSign_11 rfl rfl ?_
    refine r_getI lk_X6_19 (ln_80 hL) dX6_passSign_12 ?_
    refine r_aload_n dX6_passSign_15 rfl rfl ?_
    refine r_getI lk_X6_15 (ln_80 hL) dX6_passSign_16 ?_
    refine r_icmp_ge (tgt := 35) dX6_passSign_19 (by decide) (fun h3 => ?_) (fun h3 => ?_)
    · have hF := tw hF h3
      refine r_iconst (v := 0) dX6_passSign_35 (by decide) ?_
      obtain rfl := Option.some.inj hF
      exact r_ireturn (x := 0) rfl rfl dX6_passSign_36 (Nat.le_of_ble_eq_true rfl) (Nat.le_of_ble_eq_true rfl)
    · have hF := fw hF h3
      refine r_aload_n dX6_passSign_22 rfl rfl ?_
      refine r_getP lk_X6_9 (ln_80 hL) (pp_80_0 hL) dX6_passSign_23 ?_
      refine r_aload_n dX6_passSign_26 rfl rfl ?_
      refine r_getI lk_X6_19 (ln_80 hL) dX6_passSign_27 ?_
      obtain ⟨g4, hF⟩ := gd hF
      refine r_bald (ln_81 hL) (by rw [(nl_81 hL)]; exact g4) dX6_passSign_30 ?_
      refine r_iload_n dX6_passSign_31 rfl rfl ?_
      refine r_icmp_eq (tgt := 37) dX6_passSign_32 (by decide) (fun h5 => ?_) (fun h5 => ?_)
      · have hF := tw hF h5
        refine r_aload_n dX6_passSign_37 rfl rfl ?_
        refine r_dup dX6_passSign_38 rfl ?_
        refine r_getI lk_X6_19 (ln_80 hL) dX6_passSign_39 ?_
        refine r_iconst (v := 1) dX6_passSign_42 (by decide) ?_
        refine r_iadd dX6_passSign_43 ?_
        refine r_putI lk_X6_19 (Or.inl rfl) (ln_80 hL) rfl rfl dX6_passSign_44 ?_
        refine r_letI hF (fun I6 hF => ?_)
        refine r_iconst (v := 1) dX6_passSign_47 (by decide) ?_
        obtain rfl := Option.some.inj hF
        exact r_ireturn (x := 1) rfl rfl dX6_passSign_48 (Nat.le_of_ble_eq_true rfl) (Nat.le_of_ble_eq_true rfl)
      · have hF := fw hF h5
        refine r_iconst (v := 0) dX6_passSign_35 (by decide) ?_
        obtain rfl := Option.some.inj hF
        exact r_ireturn (x := 0) rfl rfl dX6_passSign_36 (Nat.le_of_ble_eq_true rfl) (Nat.le_of_ble_eq_true rfl)
def F_X6_passEnd (N : Nat) (I : IM) : Option (IM) := ((F_X6_passSign N I 59).bind (fun x1 => (if x1.1 = 0 then ((F_X6_blameHere x1.2).bind (fun x4 => (some x4))) else (some x1.2))))
set_option maxHeartbeats 4000000 in
theorem ok_X6_passEnd {E : GE} {T : TM} {I : IM} {J : JM} {P : PM} {N : Nat} {x : IM} (hL : LOK T P) (hF : F_X6_passEnd N I = some x) : Ctr E mX6_passEnd 2 0 0 [.ref 80] T I J P none T x J P := by
  unfold F_X6_passEnd at hF
  refine ctr_intro rfl (by decide +kernel) (Nat.le_of_ble_eq_true rfl) ?_
  refine r_sub (ls' := [(0, .ref 80)]) [0] rfl ?_
  refine r_aload_n dX6_passEnd_0 rfl rfl ?_
  refine r_bipush (v := 59) dX6_passEnd_1 (by decide) ?_
  obtain ⟨x1, hx1, hF⟩ := bnd hF
  refine c_virt_i (As := [.int 59]) mi_X6_passSign kw_359 ks_8 kw_357 rfl (by decide) (ln_80 hL) (ok_X6_passSign hL  hx1) rfl rfl (Nat.le_of_ble_eq_true rfl) ⟨Nat.le_of_ble_eq_true rfl, Nat.le_of_ble_eq_true rfl⟩ ⟨Nat.le_of_ble_eq_true rfl, Nat.le_of_ble_eq_true rfl⟩ dX6_passEnd_3 ?_
  refine r_if_ne (tgt := 13) dX6_passEnd_6 (by decide) (fun h3 => ?_) (fun h3 => ?_)
  · have hF := fw hF h3
    obtain rfl := Option.some.inj hF
    exact r_return rfl dX6_passEnd_13 (Nat.le_of_ble_eq_true rfl) (Nat.le_of_ble_eq_true rfl)
  · have hF := tw hF h3
    refine r_aload_n dX6_passEnd_9 rfl rfl ?_
    obtain ⟨x4, hx4, hF⟩ := bnd hF
    refine c_virt_v (As := []) mi_X6_blameHere kw_351 ks_6 kw_349 rfl (by decide) (ln_80 hL) (ok_X6_blameHere hL  hx4) rfl rfl (Nat.le_of_ble_eq_true rfl) ⟨Nat.le_of_ble_eq_true rfl, Nat.le_of_ble_eq_true rfl⟩ ⟨Nat.le_of_ble_eq_true rfl, Nat.le_of_ble_eq_true rfl⟩ dX6_passEnd_10 ?_
    obtain rfl := Option.some.inj hF
    exact r_return rfl dX6_passEnd_13 (Nat.le_of_ble_eq_true rfl) (Nat.le_of_ble_eq_true rfl)
def G_X6_readHand_4 (N : Nat) : Nat → Int32 → Int32 → IM → Option (IM)
  | 0, _, _, _ => none
  | n + 1, u2, u3, Iv => (if 5 ≤ u3 then ((F_X6_passEnd N Iv).bind (fun x3 => (some x3))) else (letb (if u3 = 4 then (if u2 = 0 then 1 else 0) else 0) (fun y6 : Int32 => ((F_X6_readNumber N Iv y6 9).bind (fun x7 => (if inb u3 5 = true then (letb (up2 x7.2 78 u3.toNatClampNeg x7.1) (fun I9 : IM => (if inb u3 5 = true then (letb (u2 + (I9 78 u3.toNatClampNeg)) (fun y11 : Int32 => (G_X6_readHand_4 N n y11 (u3 + 1) I9))) else none))) else none))))))
set_option maxHeartbeats 4000000 in
theorem okG_X6_readHand_4 {E : GE} {T : TM} {J : JM} {P : PM} {N : Nat} {x : IM} (hL : LOK T P) : ∀ (n : Nat) (u2 : Int32) (u3 : Int32) (Iv : IM), G_X6_readHand_4 N n u2 u3 Iv = some x → WW E mX6_readHand (RM 3 0 0) (ZM E 0 0 none T x J P) 0 0 T Iv J P 4 [(0, .ref 80), (1, .ref 75), (2, .int u2), (3, .int u3)] [] := by
  intro n
  induction n with
  | zero =>
    intro u2 u3 Iv hF
    cases hF
  | succ n ih =>
    intro u2 u3 Iv hF
    rw [G_X6_readHand_4] at hF
    refine r_iload_n dX6_readHand_4 rfl rfl ?_
    refine r_iconst (v := 5) dX6_readHand_5 (by decide) ?_
    refine r_icmp_ge (tgt := 54) dX6_readHand_6 (by decide) (fun h2 => ?_) (fun h2 => ?_)
    · have hF := tw hF h2
      refine r_aload_n dX6_readHand_54 rfl rfl ?_
      obtain ⟨x3, hx3, hF⟩ := bnd hF
      refine c_virt_v (As := []) mi_X6_passEnd kw_355 ks_7 kw_353 rfl (by decide) (ln_80 hL) (ok_X6_passEnd hL  hx3) rfl rfl (Nat.le_of_ble_eq_true rfl) ⟨Nat.le_of_ble_eq_true rfl, Nat.le_of_ble_eq_true rfl⟩ ⟨Nat.le_of_ble_eq_true rfl, Nat.le_of_ble_eq_true rfl⟩ dX6_readHand_55 ?_
      obtain rfl := Option.some.inj hF
      exact r_return rfl dX6_readHand_58 (Nat.le_of_ble_eq_true rfl) (Nat.le_of_ble_eq_true rfl)
    · have hF := fw hF h2
      refine r_iload_n dX6_readHand_9 rfl rfl ?_
      refine r_iconst (v := 4) dX6_readHand_10 (by decide) ?_
      refine r_joinB (G1 := fun y6 : Int32 => WW E mX6_readHand (RM 3 0 0) (ZM E 0 0 none T x J P) 0 0 T Iv J P 23 [(0, .ref 80), (1, .ref 75), (2, .int u2), (3, .int u3)] [.int y6]) hF (fun y6 ny6 hF => ?_) (fun y6 hv hJ => ?_)
      · refine r_istore (ls' := [(4, .int y6), (0, .ref 80), (1, .ref 75), (2, .int u2), (3, .int u3)]) dX6_readHand_23 (by decide) rfl ?_
        refine r_aload_n dX6_readHand_25 rfl rfl ?_
        refine r_getP lk_X6_65 (ln_75 hL) (pp_75_3 hL) dX6_readHand_26 ?_
        refine r_iload_n dX6_readHand_29 rfl rfl ?_
        refine r_aload_n dX6_readHand_30 rfl rfl ?_
        refine r_iload dX6_readHand_31 rfl ?_
        refine r_bipush (v := 9) dX6_readHand_33 (by decide) ?_
        obtain ⟨x7, hx7, hF⟩ := bnd hF
        refine c_virt_i (As := [.int y6, .int 9]) mi_X6_readNumber kw_344 ks_5 kw_342 rfl (by decide) (ln_80 hL) (ok_X6_readNumber hL  hx7) rfl rfl (Nat.le_of_ble_eq_true rfl) ⟨Nat.le_of_ble_eq_true rfl, Nat.le_of_ble_eq_true rfl⟩ ⟨Nat.le_of_ble_eq_true rfl, Nat.le_of_ble_eq_true rfl⟩ dX6_readHand_35 ?_
        obtain ⟨g8, hF⟩ := gd hF
        refine r_iast (ln_78 hL) (by rw [(nl_78 hL)]; exact g8) dX6_readHand_38 ?_
        refine r_letI hF (fun I9 hF => ?_)
        refine r_iload_n dX6_readHand_39 rfl rfl ?_
        refine r_aload_n dX6_readHand_40 rfl rfl ?_
        refine r_getP lk_X6_65 (ln_75 hL) (pp_75_3 hL) dX6_readHand_41 ?_
        refine r_iload_n dX6_readHand_44 rfl rfl ?_
        obtain ⟨g10, hF⟩ := gd hF
        refine r_iald (ln_78 hL) (by rw [(nl_78 hL)]; exact g10) dX6_readHand_45 ?_
        refine r_iadd dX6_readHand_46 ?_
        refine r_letV hF (fun y11 hF => ?_)
        refine r_istore_n (ls' := [(2, .int y11), (4, .int y6), (0, .ref 80), (1, .ref 75), (3, .int u3)]) dX6_readHand_47 rfl (by decide) rfl ?_
        refine r_iinc (v := (u3 + 1)) (ls' := [(3, .int (u3 + 1)), (2, .int y11), (4, .int y6), (0, .ref 80), (1, .ref 75)]) dX6_readHand_48 rfl rfl (by decide) rfl ?_
        refine r_goto (tgt := 4) dX6_readHand_51 (by decide) ?_
        refine r_sub (ls' := [(0, .ref 80), (1, .ref 75), (2, .int y11), (3, .int (u3 + 1))]) [3, 4, 1, 0] rfl ?_
        exact ih y11 (u3 + 1) I9 hF
      · refine r_icmp_ne (tgt := 22) dX6_readHand_11 (by decide) (fun h4 => ?_) (fun h4 => ?_)
        · have hv := fw hv h4
          refine r_iconst (v := 0) dX6_readHand_22 (by decide) ?_
          obtain rfl := hv
          exact hJ (by first | exact nbz0 | exact nbz1)
        · have hv := tw hv h4
          refine r_iload_n dX6_readHand_14 rfl rfl ?_
          refine r_if_ne (tgt := 22) dX6_readHand_15 (by decide) (fun h5 => ?_) (fun h5 => ?_)
          · have hv := fw hv h5
            refine r_iconst (v := 0) dX6_readHand_22 (by decide) ?_
            obtain rfl := hv
            exact hJ (by first | exact nbz0 | exact nbz1)
          · have hv := tw hv h5
            refine r_iconst (v := 1) dX6_readHand_18 (by decide) ?_
            refine r_goto (tgt := 23) dX6_readHand_19 (by decide) ?_
            obtain rfl := hv
            exact hJ (by first | exact nbz0 | exact nbz1)
def F_X6_readHand (N : Nat) (I : IM) : Option (IM) := (G_X6_readHand_4 N N 0 0 I)
set_option maxHeartbeats 4000000 in
theorem ok_X6_readHand {E : GE} {T : TM} {I : IM} {J : JM} {P : PM} {N : Nat} {x : IM} (hL : LOK T P) (hF : F_X6_readHand N I = some x) : Ctr E mX6_readHand 3 0 0 [.ref 80, .ref 75] T I J P none T x J P := by
  unfold F_X6_readHand at hF
  refine ctr_intro rfl (by decide +kernel) (Nat.le_of_ble_eq_true rfl) ?_
  refine r_sub (ls' := [(1, .ref 75), (0, .ref 80)]) [1, 0] rfl ?_
  refine r_iconst (v := 0) dX6_readHand_0 (by decide) ?_
  refine r_istore_n (ls' := [(2, .int 0), (1, .ref 75), (0, .ref 80)]) dX6_readHand_1 rfl (by decide) rfl ?_
  refine r_iconst (v := 0) dX6_readHand_2 (by decide) ?_
  refine r_istore_n (ls' := [(3, .int 0), (2, .int 0), (1, .ref 75), (0, .ref 80)]) dX6_readHand_3 rfl (by decide) rfl ?_
  refine r_sub (ls' := [(0, .ref 80), (1, .ref 75), (2, .int 0), (3, .int 0)]) [3, 2, 1, 0] rfl ?_
  exact okG_X6_readHand_4 hL   N 0 0 I hF
def F_X6_kindName (p1 : Int32) : Nat := (if p1 = 0 then 7 else (if p1 = 1 then 8 else (if p1 = 2 then 9 else (if p1 = 3 then 10 else (if p1 = 4 then 11 else 12)))))
set_option maxHeartbeats 4000000 in
theorem ok_X6_kindName {E : GE} {T : TM} {I : IM} {J : JM} {P : PM} {p1 : Int32} (hL : LOK T P) : Ctr E mX6_kindName 0 0 0 [.int p1] T I J P (some (.ref (F_X6_kindName p1))) T I J P := by
  generalize hF : F_X6_kindName p1 = r
  unfold F_X6_kindName at hF
  refine ctr_intro rfl (by decide +kernel) (Nat.le_of_ble_eq_true rfl) ?_
  refine r_sub (ls' := [(0, .int p1)]) [0] rfl ?_
  refine r_iload_n dX6_kindName_0 rfl rfl ?_
  by_cases h1 : p1 = 0
  · have hF := tw hF h1
    refine r_tableIn (off := 35) (tgt := 36) dX6_kindName_1 (by rw [h1]; decide) (by rw [h1]; decide) (by rw [h1]; decide) (by decide) ?_
    refine r_ldcS (i := 7) (by decide) rfl rfl dX6_kindName_36 ?_
    obtain rfl := hF
    exact r_areturn rfl dX6_kindName_38 (Nat.le_of_ble_eq_true rfl) (Nat.le_of_ble_eq_true rfl)
  · have hF := fw hF h1
    by_cases h2 : p1 = 1
    · have hF := tw hF h2
      refine r_tableIn (off := 38) (tgt := 39) dX6_kindName_1 (by rw [h2]; decide) (by rw [h2]; decide) (by rw [h2]; decide) (by decide) ?_
      refine r_ldcS (i := 8) (by decide) rfl rfl dX6_kindName_39 ?_
      obtain rfl := hF
      exact r_areturn rfl dX6_kindName_41 (Nat.le_of_ble_eq_true rfl) (Nat.le_of_ble_eq_true rfl)
    · have hF := fw hF h2
      by_cases h3 : p1 = 2
      · have hF := tw hF h3
        refine r_tableIn (off := 41) (tgt := 42) dX6_kindName_1 (by rw [h3]; decide) (by rw [h3]; decide) (by rw [h3]; decide) (by decide) ?_
        refine r_ldcS (i := 9) (by decide) rfl rfl dX6_kindName_42 ?_
        obtain rfl := hF
        exact r_areturn rfl dX6_kindName_44 (Nat.le_of_ble_eq_true rfl) (Nat.le_of_ble_eq_true rfl)
      · have hF := fw hF h3
        by_cases h4 : p1 = 3
        · have hF := tw hF h4
          refine r_tableIn (off := 44) (tgt := 45) dX6_kindName_1 (by rw [h4]; decide) (by rw [h4]; decide) (by rw [h4]; decide) (by decide) ?_
          refine r_ldcS (i := 10) (by decide) rfl rfl dX6_kindName_45 ?_
          obtain rfl := hF
          exact r_areturn rfl dX6_kindName_47 (Nat.le_of_ble_eq_true rfl) (Nat.le_of_ble_eq_true rfl)
        · have hF := fw hF h4
          by_cases h5 : p1 = 4
          · have hF := tw hF h5
            refine r_tableIn (off := 47) (tgt := 48) dX6_kindName_1 (by rw [h5]; decide) (by rw [h5]; decide) (by rw [h5]; decide) (by decide) ?_
            refine r_ldcS (i := 11) (by decide) rfl rfl dX6_kindName_48 ?_
            obtain rfl := hF
            exact r_areturn rfl dX6_kindName_50 (Nat.le_of_ble_eq_true rfl) (Nat.le_of_ble_eq_true rfl)
          · have hF := fw hF h5
            have eh1 := nei 0 (by decide) h1
            have eh2 := nei 1 (by decide) h2
            have eh3 := nei 2 (by decide) h3
            have eh4 := nei 3 (by decide) h4
            have eh5 := nei 4 (by decide) h5
            refine r_tableOut (tgt := 51) dX6_kindName_1 (by omega) (by decide) ?_
            refine r_ldcS (i := 12) (by decide) rfl rfl dX6_kindName_51 ?_
            obtain rfl := hF
            exact r_areturn rfl dX6_kindName_53 (Nat.le_of_ble_eq_true rfl) (Nat.le_of_ble_eq_true rfl)
theorem lt_X6_kindName (p1 : Int32) : F_X6_kindName p1 < 15 := by
  unfold F_X6_kindName
  repeat' split
  all_goals decide
def G_X6_passKind_2 (N : Nat) : Nat → Int32 → IM → Option (Int32 × IM)
  | 0, _, _ => none
  | n + 1, u1, Iv => (if 5 < u1 then (some ((-1), Iv)) else ((F_X6_passName N Iv (F_X6_kindName u1)).bind (fun x2 => (if x2.1 = 0 then (G_X6_passKind_2 N n (u1 + 1) x2.2) else (some (u1, x2.2))))))
set_option maxHeartbeats 4000000 in
theorem okG_X6_passKind_2 {E : GE} {T : TM} {J : JM} {P : PM} {N : Nat} {x : Int32 × IM} (hL : LOK T P) : ∀ (n : Nat) (u1 : Int32) (Iv : IM), G_X6_passKind_2 N n u1 Iv = some x → WW E mX6_passKind (RM 5 0 0) (ZM E 0 0 (some (.int x.1)) T x.2 J P) 0 0 T Iv J P 2 [(0, .ref 80), (1, .int u1)] [] := by
  intro n
  induction n with
  | zero =>
    intro u1 Iv hF
    cases hF
  | succ n ih =>
    intro u1 Iv hF
    rw [G_X6_passKind_2] at hF
    refine r_iload_n dX6_passKind_2 rfl rfl ?_
    refine r_iconst (v := 5) dX6_passKind_3 (by decide) ?_
    refine r_icmp_gt (tgt := 26) dX6_passKind_4 (by decide) (fun h1 => ?_) (fun h1 => ?_)
    · have hF := tw hF h1
      refine r_iconst (v := (-1)) dX6_passKind_26 (by decide) ?_
      obtain rfl := Option.some.inj hF
      exact r_ireturn (x := (-1)) rfl rfl dX6_passKind_27 (Nat.le_of_ble_eq_true rfl) (Nat.le_of_ble_eq_true rfl)
    · have hF := fw hF h1
      refine r_aload_n dX6_passKind_7 rfl rfl ?_
      refine r_iload_n dX6_passKind_8 rfl rfl ?_
      refine c_static_r (As := [.int u1]) mi_X6_kindName kw_375 kw_374 (ok_X6_kindName hL (p1 := u1)) rfl rfl (Nat.le_of_ble_eq_true rfl) ⟨Nat.le_of_ble_eq_true rfl, Nat.le_of_ble_eq_true rfl⟩ ⟨Nat.le_of_ble_eq_true rfl, Nat.le_of_ble_eq_true rfl⟩ dX6_passKind_9 ?_
      obtain ⟨x2, hx2, hF⟩ := bnd hF
      refine c_virt_i (As := [.ref (F_X6_kindName u1)]) mi_X6_passName kw_288 ks_3 kw_286 rfl (by decide) (ln_80 hL) (ok_X6_passName hL (lt_X6_kindName _) hx2) rfl rfl (Nat.le_of_ble_eq_true rfl) ⟨Nat.le_of_ble_eq_true rfl, Nat.le_of_ble_eq_true rfl⟩ ⟨Nat.le_of_ble_eq_true rfl, Nat.le_of_ble_eq_true rfl⟩ dX6_passKind_12 ?_
      refine r_if_eq (tgt := 20) dX6_passKind_15 (by decide) (fun h3 => ?_) (fun h3 => ?_)
      · have hF := tw hF h3
        refine r_iinc (v := (u1 + 1)) (ls' := [(1, .int (u1 + 1)), (0, .ref 80)]) dX6_passKind_20 rfl rfl (by decide) rfl ?_
        refine r_goto (tgt := 2) dX6_passKind_23 (by decide) ?_
        refine r_sub (ls' := [(0, .ref 80), (1, .int (u1 + 1))]) [1, 0] rfl ?_
        exact ih (u1 + 1) x2.2 hF
      · have hF := fw hF h3
        refine r_iload_n dX6_passKind_18 rfl rfl ?_
        obtain rfl := Option.some.inj hF
        exact r_ireturn (x := u1) rfl rfl dX6_passKind_19 (Nat.le_of_ble_eq_true rfl) (Nat.le_of_ble_eq_true rfl)
def F_X6_passKind (N : Nat) (I : IM) : Option (Int32 × IM) := (G_X6_passKind_2 N N 0 I)
set_option maxHeartbeats 4000000 in
theorem ok_X6_passKind {E : GE} {T : TM} {I : IM} {J : JM} {P : PM} {N : Nat} {x : Int32 × IM} (hL : LOK T P) (hF : F_X6_passKind N I = some x) : Ctr E mX6_passKind 5 0 0 [.ref 80] T I J P (some (.int x.1)) T x.2 J P := by
  unfold F_X6_passKind at hF
  refine ctr_intro rfl (by decide +kernel) (Nat.le_of_ble_eq_true rfl) ?_
  refine r_sub (ls' := [(0, .ref 80)]) [0] rfl ?_
  refine r_iconst (v := 0) dX6_passKind_0 (by decide) ?_
  refine r_istore_n (ls' := [(1, .int 0), (0, .ref 80)]) dX6_passKind_1 rfl (by decide) rfl ?_
  refine r_sub (ls' := [(0, .ref 80), (1, .int 0)]) [1, 0] rfl ?_
  exact okG_X6_passKind_2 hL   N 0 I hF
def F_X6_readClip (N : Nat) (I : IM) : Option (Int32 × IM) := ((F_X6_passSign N I 45).bind (fun x1 => ((F_X6_readNumber N x1.2 0 4).bind (fun x2 => (if x1.1 = 0 then (some (x2.1, x2.2)) else (some ((-x2.1), x2.2)))))))
set_option maxHeartbeats 4000000 in
theorem ok_X6_readClip {E : GE} {T : TM} {I : IM} {J : JM} {P : PM} {N : Nat} {x : Int32 × IM} (hL : LOK T P) (hF : F_X6_readClip N I = some x) : Ctr E mX6_readClip 3 0 0 [.ref 80] T I J P (some (.int x.1)) T x.2 J P := by
  unfold F_X6_readClip at hF
  refine ctr_intro rfl (by decide +kernel) (Nat.le_of_ble_eq_true rfl) ?_
  refine r_sub (ls' := [(0, .ref 80)]) [0] rfl ?_
  refine r_aload_n dX6_readClip_0 rfl rfl ?_
  refine r_bipush (v := 45) dX6_readClip_1 (by decide) ?_
  obtain ⟨x1, hx1, hF⟩ := bnd hF
  refine c_virt_i (As := [.int 45]) mi_X6_passSign kw_359 ks_8 kw_357 rfl (by decide) (ln_80 hL) (ok_X6_passSign hL  hx1) rfl rfl (Nat.le_of_ble_eq_true rfl) ⟨Nat.le_of_ble_eq_true rfl, Nat.le_of_ble_eq_true rfl⟩ ⟨Nat.le_of_ble_eq_true rfl, Nat.le_of_ble_eq_true rfl⟩ dX6_readClip_3 ?_
  refine r_istore_n (ls' := [(1, .int x1.1), (0, .ref 80)]) dX6_readClip_6 rfl (by decide) rfl ?_
  refine r_aload_n dX6_readClip_7 rfl rfl ?_
  refine r_iconst (v := 0) dX6_readClip_8 (by decide) ?_
  refine r_iconst (v := 4) dX6_readClip_9 (by decide) ?_
  obtain ⟨x2, hx2, hF⟩ := bnd hF
  refine c_virt_i (As := [.int 0, .int 4]) mi_X6_readNumber kw_344 ks_5 kw_342 rfl (by decide) (ln_80 hL) (ok_X6_readNumber hL  hx2) rfl rfl (Nat.le_of_ble_eq_true rfl) ⟨Nat.le_of_ble_eq_true rfl, Nat.le_of_ble_eq_true rfl⟩ ⟨Nat.le_of_ble_eq_true rfl, Nat.le_of_ble_eq_true rfl⟩ dX6_readClip_10 ?_
  refine r_istore_n (ls' := [(2, .int x2.1), (1, .int x1.1), (0, .ref 80)]) dX6_readClip_13 rfl (by decide) rfl ?_
  refine r_iload_n dX6_readClip_14 rfl rfl ?_
  refine r_if_eq (tgt := 23) dX6_readClip_15 (by decide) (fun h3 => ?_) (fun h3 => ?_)
  · have hF := tw hF h3
    refine r_iload_n dX6_readClip_23 rfl rfl ?_
    obtain rfl := Option.some.inj hF
    exact r_ireturn (x := x2.1) rfl rfl dX6_readClip_24 (Nat.le_of_ble_eq_true rfl) (Nat.le_of_ble_eq_true rfl)
  · have hF := fw hF h3
    refine r_iload_n dX6_readClip_18 rfl rfl ?_
    refine r_ineg dX6_readClip_19 ?_
    refine r_goto (tgt := 24) dX6_readClip_20 (by decide) ?_
    obtain rfl := Option.some.inj hF
    exact r_ireturn (x := (-x2.1)) rfl rfl dX6_readClip_24 (Nat.le_of_ble_eq_true rfl) (Nat.le_of_ble_eq_true rfl)
def F_X0_init (T : TM) (I : IM) (c : Nat) (p1 : Int32) (p2 : Int32) (p3 : Int32) (p4 : Int32) : Option (IM) := (letb (up2 I c 0 p1) (fun I1 : IM => (letb (up2 I1 c 1 p2) (fun I2 : IM => (letb (up2 I2 c 2 p3) (fun I3 : IM => (letb (up2 I3 c 3 p4) (fun I4 : IM => (some I4)))))))))
set_option maxHeartbeats 4000000 in
theorem ok_X0_init {E : GE} {T : TM} {I : IM} {J : JM} {P : PM} {c : Nat} {p1 : Int32} {p2 : Int32} {p3 : Int32} {p4 : Int32} {x : IM} (hL : LOK T P) (hc : isF T c = true) (hF : F_X0_init T I c p1 p2 p3 p4 = some x) : Ctr E mX0_init 1 0 0 [.ref c, .int p1, .int p2, .int p3, .int p4] T I J P none T x J P := by
  unfold F_X0_init at hF
  refine ctr_intro rfl (by decide +kernel) (Nat.le_of_ble_eq_true rfl) ?_
  refine r_sub (ls' := [(4, .int p4), (3, .int p3), (2, .int p2), (1, .int p1), (0, .ref c)]) [4, 3, 2, 1, 0] rfl ?_
  refine r_aload_n dX0_init_0 rfl rfl ?_
  refine r_objInit kw_404 ⟨Nat.le_of_ble_eq_true rfl, Nat.le_of_ble_eq_true rfl⟩ kw_26 kw_27 dX0_init_1 ?_
  refine r_aload_n dX0_init_4 rfl rfl ?_
  refine r_iload_n dX0_init_5 rfl rfl ?_
  refine r_putFm lf_X0_9 (Or.inr ⟨rfl, rfl⟩) hc dX0_init_6 ?_
  refine r_letI hF (fun I1 hF => ?_)
  refine r_aload_n dX0_init_9 rfl rfl ?_
  refine r_iload_n dX0_init_10 rfl rfl ?_
  refine r_putFm lf_X0_15 (Or.inr ⟨rfl, rfl⟩) hc dX0_init_11 ?_
  refine r_letI hF (fun I2 hF => ?_)
  refine r_aload_n dX0_init_14 rfl rfl ?_
  refine r_iload_n dX0_init_15 rfl rfl ?_
  refine r_putFm lf_X0_18 (Or.inr ⟨rfl, rfl⟩) hc dX0_init_16 ?_
  refine r_letI hF (fun I3 hF => ?_)
  refine r_aload_n dX0_init_19 rfl rfl ?_
  refine r_iload dX0_init_20 rfl ?_
  refine r_putFm lf_X0_21 (Or.inr ⟨rfl, rfl⟩) hc dX0_init_22 ?_
  refine r_letI hF (fun I4 hF => ?_)
  obtain rfl := Option.some.inj hF
  exact r_return rfl dX0_init_25 (Nat.le_of_ble_eq_true rfl) (Nat.le_of_ble_eq_true rfl)
def F_X4_init (T : TM) (I : IM) (c : Nat) (p1 : Int32) (p2 : Int32) (p3 : Int32) (p4 : Int32) : Option (IM) := ((F_X0_init T I c p1 p2 p3 p4).bind (fun x1 => (some x1)))
set_option maxHeartbeats 4000000 in
theorem ok_X4_init {E : GE} {T : TM} {I : IM} {J : JM} {P : PM} {c : Nat} {p1 : Int32} {p2 : Int32} {p3 : Int32} {p4 : Int32} {x : IM} (hL : LOK T P) (hc : isF T c = true) (hF : F_X4_init T I c p1 p2 p3 p4 = some x) : Ctr E mX4_init 2 0 0 [.ref c, .int p1, .int p2, .int p3, .int p4] T I J P none T x J P := by
  unfold F_X4_init at hF
  refine ctr_intro rfl (by decide +kernel) (Nat.le_of_ble_eq_true rfl) ?_
  refine r_sub (ls' := [(4, .int p4), (3, .int p3), (2, .int p2), (1, .int p1), (0, .ref c)]) [4, 3, 2, 1, 0] rfl ?_
  refine r_aload_n dX4_init_0 rfl rfl ?_
  refine r_iload_n dX4_init_1 rfl rfl ?_
  refine r_iload_n dX4_init_2 rfl rfl ?_
  refine r_iload_n dX4_init_3 rfl rfl ?_
  refine r_iload dX4_init_4 rfl ?_
  obtain ⟨x1, hx1, hF⟩ := bnd hF
  refine c_init_v (As := [.int p1, .int p2, .int p3, .int p4]) mi_X0_init rfl rfl kw_402 kw_401 (ok_X0_init hL hc hx1) rfl rfl (Nat.le_of_ble_eq_true rfl) ⟨Nat.le_of_ble_eq_true rfl, Nat.le_of_ble_eq_true rfl⟩ ⟨Nat.le_of_ble_eq_true rfl, Nat.le_of_ble_eq_true rfl⟩ dX4_init_6 ?_
  obtain rfl := Option.some.inj hF
  exact r_return rfl dX4_init_9 (Nat.le_of_ble_eq_true rfl) (Nat.le_of_ble_eq_true rfl)
def F_X5_init (T : TM) (I : IM) (c : Nat) (p1 : Int32) (p2 : Int32) (p3 : Int32) (p4 : Int32) : Option (IM) := ((F_X0_init T I c p1 p2 p3 p4).bind (fun x1 => (some x1)))
set_option maxHeartbeats 4000000 in
theorem ok_X5_init {E : GE} {T : TM} {I : IM} {J : JM} {P : PM} {c : Nat} {p1 : Int32} {p2 : Int32} {p3 : Int32} {p4 : Int32} {x : IM} (hL : LOK T P) (hc : isF T c = true) (hF : F_X5_init T I c p1 p2 p3 p4 = some x) : Ctr E mX5_init 2 0 0 [.ref c, .int p1, .int p2, .int p3, .int p4] T I J P none T x J P := by
  unfold F_X5_init at hF
  refine ctr_intro rfl (by decide +kernel) (Nat.le_of_ble_eq_true rfl) ?_
  refine r_sub (ls' := [(4, .int p4), (3, .int p3), (2, .int p2), (1, .int p1), (0, .ref c)]) [4, 3, 2, 1, 0] rfl ?_
  refine r_aload_n dX5_init_0 rfl rfl ?_
  refine r_iload_n dX5_init_1 rfl rfl ?_
  refine r_iload_n dX5_init_2 rfl rfl ?_
  refine r_iload_n dX5_init_3 rfl rfl ?_
  refine r_iload dX5_init_4 rfl ?_
  obtain ⟨x1, hx1, hF⟩ := bnd hF
  refine c_init_v (As := [.int p1, .int p2, .int p3, .int p4]) mi_X0_init rfl rfl kw_402 kw_436 (ok_X0_init hL hc hx1) rfl rfl (Nat.le_of_ble_eq_true rfl) ⟨Nat.le_of_ble_eq_true rfl, Nat.le_of_ble_eq_true rfl⟩ ⟨Nat.le_of_ble_eq_true rfl, Nat.le_of_ble_eq_true rfl⟩ dX5_init_6 ?_
  obtain rfl := Option.some.inj hF
  exact r_return rfl dX5_init_9 (Nat.le_of_ble_eq_true rfl) (Nat.le_of_ble_eq_true rfl)
def F_X8_init (T : TM) (I : IM) (c : Nat) (p1 : Int32) (p2 : Int32) (p3 : Int32) (p4 : Int32) : Option (IM) := ((F_X0_init T I c p1 p2 p3 p4).bind (fun x1 => (some x1)))
set_option maxHeartbeats 4000000 in
theorem ok_X8_init {E : GE} {T : TM} {I : IM} {J : JM} {P : PM} {c : Nat} {p1 : Int32} {p2 : Int32} {p3 : Int32} {p4 : Int32} {x : IM} (hL : LOK T P) (hc : isF T c = true) (hF : F_X8_init T I c p1 p2 p3 p4 = some x) : Ctr E mX8_init 2 0 0 [.ref c, .int p1, .int p2, .int p3, .int p4] T I J P none T x J P := by
  unfold F_X8_init at hF
  refine ctr_intro rfl (by decide +kernel) (Nat.le_of_ble_eq_true rfl) ?_
  refine r_sub (ls' := [(4, .int p4), (3, .int p3), (2, .int p2), (1, .int p1), (0, .ref c)]) [4, 3, 2, 1, 0] rfl ?_
  refine r_aload_n dX8_init_0 rfl rfl ?_
  refine r_iload_n dX8_init_1 rfl rfl ?_
  refine r_iload_n dX8_init_2 rfl rfl ?_
  refine r_iload_n dX8_init_3 rfl rfl ?_
  refine r_iload dX8_init_4 rfl ?_
  obtain ⟨x1, hx1, hF⟩ := bnd hF
  refine c_init_v (As := [.int p1, .int p2, .int p3, .int p4]) mi_X0_init rfl rfl kw_402 kw_447 (ok_X0_init hL hc hx1) rfl rfl (Nat.le_of_ble_eq_true rfl) ⟨Nat.le_of_ble_eq_true rfl, Nat.le_of_ble_eq_true rfl⟩ ⟨Nat.le_of_ble_eq_true rfl, Nat.le_of_ble_eq_true rfl⟩ dX8_init_6 ?_
  obtain rfl := Option.some.inj hF
  exact r_return rfl dX8_init_9 (Nat.le_of_ble_eq_true rfl) (Nat.le_of_ble_eq_true rfl)
def F_X2_init (T : TM) (I : IM) (c : Nat) (p1 : Int32) (p2 : Int32) (p3 : Int32) (p4 : Int32) : Option (IM) := ((F_X4_init T I c p1 p2 p3 p4).bind (fun x1 => (some x1)))
set_option maxHeartbeats 4000000 in
theorem ok_X2_init {E : GE} {T : TM} {I : IM} {J : JM} {P : PM} {c : Nat} {p1 : Int32} {p2 : Int32} {p3 : Int32} {p4 : Int32} {x : IM} (hL : LOK T P) (hc : isF T c = true) (hF : F_X2_init T I c p1 p2 p3 p4 = some x) : Ctr E mX2_init 3 0 0 [.ref c, .int p1, .int p2, .int p3, .int p4] T I J P none T x J P := by
  unfold F_X2_init at hF
  refine ctr_intro rfl (by decide +kernel) (Nat.le_of_ble_eq_true rfl) ?_
  refine r_sub (ls' := [(4, .int p4), (3, .int p3), (2, .int p2), (1, .int p1), (0, .ref c)]) [4, 3, 2, 1, 0] rfl ?_
  refine r_aload_n dX2_init_0 rfl rfl ?_
  refine r_iload_n dX2_init_1 rfl rfl ?_
  refine r_iload_n dX2_init_2 rfl rfl ?_
  refine r_iload_n dX2_init_3 rfl rfl ?_
  refine r_iload dX2_init_4 rfl ?_
  obtain ⟨x1, hx1, hF⟩ := bnd hF
  refine c_init_v (As := [.int p1, .int p2, .int p3, .int p4]) mi_X4_init rfl rfl kw_399 kw_458 (ok_X4_init hL hc hx1) rfl rfl (Nat.le_of_ble_eq_true rfl) ⟨Nat.le_of_ble_eq_true rfl, Nat.le_of_ble_eq_true rfl⟩ ⟨Nat.le_of_ble_eq_true rfl, Nat.le_of_ble_eq_true rfl⟩ dX2_init_6 ?_
  obtain rfl := Option.some.inj hF
  exact r_return rfl dX2_init_9 (Nat.le_of_ble_eq_true rfl) (Nat.le_of_ble_eq_true rfl)
def F_X9_init (T : TM) (I : IM) (c : Nat) (p1 : Int32) (p2 : Int32) (p3 : Int32) (p4 : Int32) : Option (IM) := ((F_X8_init T I c p1 p2 p3 p4).bind (fun x1 => (some x1)))
set_option maxHeartbeats 4000000 in
theorem ok_X9_init {E : GE} {T : TM} {I : IM} {J : JM} {P : PM} {c : Nat} {p1 : Int32} {p2 : Int32} {p3 : Int32} {p4 : Int32} {x : IM} (hL : LOK T P) (hc : isF T c = true) (hF : F_X9_init T I c p1 p2 p3 p4 = some x) : Ctr E mX9_init 3 0 0 [.ref c, .int p1, .int p2, .int p3, .int p4] T I J P none T x J P := by
  unfold F_X9_init at hF
  refine ctr_intro rfl (by decide +kernel) (Nat.le_of_ble_eq_true rfl) ?_
  refine r_sub (ls' := [(4, .int p4), (3, .int p3), (2, .int p2), (1, .int p1), (0, .ref c)]) [4, 3, 2, 1, 0] rfl ?_
  refine r_aload_n dX9_init_0 rfl rfl ?_
  refine r_iload_n dX9_init_1 rfl rfl ?_
  refine r_iload_n dX9_init_2 rfl rfl ?_
  refine r_iload_n dX9_init_3 rfl rfl ?_
  refine r_iload dX9_init_4 rfl ?_
  obtain ⟨x1, hx1, hF⟩ := bnd hF
  refine c_init_v (As := [.int p1, .int p2, .int p3, .int p4]) mi_X8_init rfl rfl kw_445 kw_469 (ok_X8_init hL hc hx1) rfl rfl (Nat.le_of_ble_eq_true rfl) ⟨Nat.le_of_ble_eq_true rfl, Nat.le_of_ble_eq_true rfl⟩ ⟨Nat.le_of_ble_eq_true rfl, Nat.le_of_ble_eq_true rfl⟩ dX9_init_6 ?_
  obtain rfl := Option.some.inj hF
  exact r_return rfl dX9_init_9 (Nat.le_of_ble_eq_true rfl) (Nat.le_of_ble_eq_true rfl)
def F_X10_thingOf (T : TM) (I : IM) (J : JM) (P : PM) (p1 : Int32) (p2 : Int32) (p3 : Int32) (p4 : Int32) (p5 : Int32) : Option (Option Nat × TM × IM × JM × PM) := (if p1 = 1 then (letb (nT T 4 0) (fun T2 : TM => (letb (nI0 T I) (fun I3 : IM => (letb (nJ0 T J) (fun J4 : JM => (letb (nP0 T P) (fun P5 : PM => ((F_X4_init T2 I3 (64 + T.1) p2 p3 p4 p5).bind (fun x7 => (some ((some (64 + T.1)), T2, x7, J4, P5)))))))))))) else (if p1 = 2 then (letb (nT T 5 0) (fun T9 : TM => (letb (nI0 T I) (fun I10 : IM => (letb (nJ0 T J) (fun J11 : JM => (letb (nP0 T P) (fun P12 : PM => ((F_X5_init T9 I10 (64 + T.1) p2 p3 p4 p5).bind (fun x14 => (some ((some (64 + T.1)), T9, x14, J11, P12)))))))))))) else (if p1 = 3 then (letb (nT T 8 0) (fun T16 : TM => (letb (nI0 T I) (fun I17 : IM => (letb (nJ0 T J) (fun J18 : JM => (letb (nP0 T P) (fun P19 : PM => ((F_X8_init T16 I17 (64 + T.1) p2 p3 p4 p5).bind (fun x21 => (some ((some (64 + T.1)), T16, x21, J18, P19)))))))))))) else (if p1 = 4 then (letb (nT T 2 0) (fun T23 : TM => (letb (nI0 T I) (fun I24 : IM => (letb (nJ0 T J) (fun J25 : JM => (letb (nP0 T P) (fun P26 : PM => ((F_X2_init T23 I24 (64 + T.1) p2 p3 p4 p5).bind (fun x28 => (some ((some (64 + T.1)), T23, x28, J25, P26)))))))))))) else (if p1 = 5 then (letb (nT T 9 0) (fun T30 : TM => (letb (nI0 T I) (fun I31 : IM => (letb (nJ0 T J) (fun J32 : JM => (letb (nP0 T P) (fun P33 : PM => ((F_X9_init T30 I31 (64 + T.1) p2 p3 p4 p5).bind (fun x35 => (some ((some (64 + T.1)), T30, x35, J32, P33)))))))))))) else (letb (nT T 0 0) (fun T36 : TM => (letb (nI0 T I) (fun I37 : IM => (letb (nJ0 T J) (fun J38 : JM => (letb (nP0 T P) (fun P39 : PM => ((F_X0_init T36 I37 (64 + T.1) p2 p3 p4 p5).bind (fun x41 => (some ((some (64 + T.1)), T36, x41, J38, P39)))))))))))))))))
set_option maxHeartbeats 4000000 in
theorem ok_X10_thingOf {E : GE} {T : TM} {I : IM} {J : JM} {P : PM} {p1 : Int32} {p2 : Int32} {p3 : Int32} {p4 : Int32} {p5 : Int32} {x : Option Nat × TM × IM × JM × PM} (hL : LOK T P) (hF : F_X10_thingOf T I J P p1 p2 p3 p4 p5 = some x) : CtrP E (LOK x.2.1 x.2.2.2.2) mX10_thingOf 4 1 4 [.int p1, .int p2, .int p3, .int p4, .int p5] T I J P (some (rv x.1)) x.2.1 x.2.2.1 x.2.2.2.1 x.2.2.2.2 := by
  unfold F_X10_thingOf at hF
  refine ctrP_intro (by decide) (Nat.le_of_ble_eq_true rfl) ?_
  refine r_sub (ls' := [(4, .int p5), (3, .int p4), (2, .int p3), (1, .int p2), (0, .int p1)]) [4, 3, 2, 1, 0] rfl ?_
  refine r_iload_n dX10_thingOf_0 rfl rfl ?_
  by_cases h1 : p1 = 1
  · have hF := tw hF h1
    refine r_tableIn (off := 35) (tgt := 36) dX10_thingOf_1 (by rw [h1]; decide) (by rw [h1]; decide) (by rw [h1]; decide) (by decide) ?_
    refine r_new ciX4 rfl kw_396 ⟨Nat.le_of_ble_eq_true rfl, Nat.le_of_ble_eq_true rfl⟩ dX10_thingOf_36 ?_
    refine r_letT hF (fun T2 eT2 hF => ?_)
    refine r_letI hF (fun I3 hF => ?_)
    refine r_letJ hF (fun J4 hF => ?_)
    refine r_letP hF (fun P5 eP5 hF => ?_)
    have i6 : isF T2 (64 + T.1) = true := isF_mk (ci := 4) (by rw [eT2]; exact IS.fresh) (by decide)
    have hL : LOK T2 P5 := by rw [eT2, eP5]; exact hL.new
    refine r_dup dX10_thingOf_39 rfl ?_
    refine r_iload_n dX10_thingOf_40 rfl rfl ?_
    refine r_iload_n dX10_thingOf_41 rfl rfl ?_
    refine r_iload_n dX10_thingOf_42 rfl rfl ?_
    refine r_iload dX10_thingOf_43 rfl ?_
    obtain ⟨x7, hx7, hF⟩ := bnd hF
    refine c_init_v (As := [.int p2, .int p3, .int p4, .int p5]) mi_X4_init rfl rfl kw_399 kw_398 (ok_X4_init hL i6 hx7) rfl rfl (Nat.le_of_ble_eq_true rfl) ⟨Nat.le_of_ble_eq_true rfl, Nat.le_of_ble_eq_true rfl⟩ ⟨Nat.le_of_ble_eq_true rfl, Nat.le_of_ble_eq_true rfl⟩ dX10_thingOf_45 ?_
    obtain rfl := Option.some.inj hF
    exact p_areturn rfl dX10_thingOf_48 hL (Nat.le_of_ble_eq_true rfl) (Nat.le_of_ble_eq_true rfl)
  · have hF := fw hF h1
    by_cases h8 : p1 = 2
    · have hF := tw hF h8
      refine r_tableIn (off := 48) (tgt := 49) dX10_thingOf_1 (by rw [h8]; decide) (by rw [h8]; decide) (by rw [h8]; decide) (by decide) ?_
      refine r_new ciX5 rfl kw_431 ⟨Nat.le_of_ble_eq_true rfl, Nat.le_of_ble_eq_true rfl⟩ dX10_thingOf_49 ?_
      refine r_letT hF (fun T9 eT9 hF => ?_)
      refine r_letI hF (fun I10 hF => ?_)
      refine r_letJ hF (fun J11 hF => ?_)
      refine r_letP hF (fun P12 eP12 hF => ?_)
      have i13 : isF T9 (64 + T.1) = true := isF_mk (ci := 5) (by rw [eT9]; exact IS.fresh) (by decide)
      have hL : LOK T9 P12 := by rw [eT9, eP12]; exact hL.new
      refine r_dup dX10_thingOf_52 rfl ?_
      refine r_iload_n dX10_thingOf_53 rfl rfl ?_
      refine r_iload_n dX10_thingOf_54 rfl rfl ?_
      refine r_iload_n dX10_thingOf_55 rfl rfl ?_
      refine r_iload dX10_thingOf_56 rfl ?_
      obtain ⟨x14, hx14, hF⟩ := bnd hF
      refine c_init_v (As := [.int p2, .int p3, .int p4, .int p5]) mi_X5_init rfl rfl kw_434 kw_433 (ok_X5_init hL i13 hx14) rfl rfl (Nat.le_of_ble_eq_true rfl) ⟨Nat.le_of_ble_eq_true rfl, Nat.le_of_ble_eq_true rfl⟩ ⟨Nat.le_of_ble_eq_true rfl, Nat.le_of_ble_eq_true rfl⟩ dX10_thingOf_58 ?_
      obtain rfl := Option.some.inj hF
      exact p_areturn rfl dX10_thingOf_61 hL (Nat.le_of_ble_eq_true rfl) (Nat.le_of_ble_eq_true rfl)
    · have hF := fw hF h8
      by_cases h15 : p1 = 3
      · have hF := tw hF h15
        refine r_tableIn (off := 61) (tgt := 62) dX10_thingOf_1 (by rw [h15]; decide) (by rw [h15]; decide) (by rw [h15]; decide) (by decide) ?_
        refine r_new ciX8 rfl kw_442 ⟨Nat.le_of_ble_eq_true rfl, Nat.le_of_ble_eq_true rfl⟩ dX10_thingOf_62 ?_
        refine r_letT hF (fun T16 eT16 hF => ?_)
        refine r_letI hF (fun I17 hF => ?_)
        refine r_letJ hF (fun J18 hF => ?_)
        refine r_letP hF (fun P19 eP19 hF => ?_)
        have i20 : isF T16 (64 + T.1) = true := isF_mk (ci := 8) (by rw [eT16]; exact IS.fresh) (by decide)
        have hL : LOK T16 P19 := by rw [eT16, eP19]; exact hL.new
        refine r_dup dX10_thingOf_65 rfl ?_
        refine r_iload_n dX10_thingOf_66 rfl rfl ?_
        refine r_iload_n dX10_thingOf_67 rfl rfl ?_
        refine r_iload_n dX10_thingOf_68 rfl rfl ?_
        refine r_iload dX10_thingOf_69 rfl ?_
        obtain ⟨x21, hx21, hF⟩ := bnd hF
        refine c_init_v (As := [.int p2, .int p3, .int p4, .int p5]) mi_X8_init rfl rfl kw_445 kw_444 (ok_X8_init hL i20 hx21) rfl rfl (Nat.le_of_ble_eq_true rfl) ⟨Nat.le_of_ble_eq_true rfl, Nat.le_of_ble_eq_true rfl⟩ ⟨Nat.le_of_ble_eq_true rfl, Nat.le_of_ble_eq_true rfl⟩ dX10_thingOf_71 ?_
        obtain rfl := Option.some.inj hF
        exact p_areturn rfl dX10_thingOf_74 hL (Nat.le_of_ble_eq_true rfl) (Nat.le_of_ble_eq_true rfl)
      · have hF := fw hF h15
        by_cases h22 : p1 = 4
        · have hF := tw hF h22
          refine r_tableIn (off := 74) (tgt := 75) dX10_thingOf_1 (by rw [h22]; decide) (by rw [h22]; decide) (by rw [h22]; decide) (by decide) ?_
          refine r_new ciX2 rfl kw_453 ⟨Nat.le_of_ble_eq_true rfl, Nat.le_of_ble_eq_true rfl⟩ dX10_thingOf_75 ?_
          refine r_letT hF (fun T23 eT23 hF => ?_)
          refine r_letI hF (fun I24 hF => ?_)
          refine r_letJ hF (fun J25 hF => ?_)
          refine r_letP hF (fun P26 eP26 hF => ?_)
          have i27 : isF T23 (64 + T.1) = true := isF_mk (ci := 2) (by rw [eT23]; exact IS.fresh) (by decide)
          have hL : LOK T23 P26 := by rw [eT23, eP26]; exact hL.new
          refine r_dup dX10_thingOf_78 rfl ?_
          refine r_iload_n dX10_thingOf_79 rfl rfl ?_
          refine r_iload_n dX10_thingOf_80 rfl rfl ?_
          refine r_iload_n dX10_thingOf_81 rfl rfl ?_
          refine r_iload dX10_thingOf_82 rfl ?_
          obtain ⟨x28, hx28, hF⟩ := bnd hF
          refine c_init_v (As := [.int p2, .int p3, .int p4, .int p5]) mi_X2_init rfl rfl kw_456 kw_455 (ok_X2_init hL i27 hx28) rfl rfl (Nat.le_of_ble_eq_true rfl) ⟨Nat.le_of_ble_eq_true rfl, Nat.le_of_ble_eq_true rfl⟩ ⟨Nat.le_of_ble_eq_true rfl, Nat.le_of_ble_eq_true rfl⟩ dX10_thingOf_84 ?_
          obtain rfl := Option.some.inj hF
          exact p_areturn rfl dX10_thingOf_87 hL (Nat.le_of_ble_eq_true rfl) (Nat.le_of_ble_eq_true rfl)
        · have hF := fw hF h22
          by_cases h29 : p1 = 5
          · have hF := tw hF h29
            refine r_tableIn (off := 87) (tgt := 88) dX10_thingOf_1 (by rw [h29]; decide) (by rw [h29]; decide) (by rw [h29]; decide) (by decide) ?_
            refine r_new ciX9 rfl kw_464 ⟨Nat.le_of_ble_eq_true rfl, Nat.le_of_ble_eq_true rfl⟩ dX10_thingOf_88 ?_
            refine r_letT hF (fun T30 eT30 hF => ?_)
            refine r_letI hF (fun I31 hF => ?_)
            refine r_letJ hF (fun J32 hF => ?_)
            refine r_letP hF (fun P33 eP33 hF => ?_)
            have i34 : isF T30 (64 + T.1) = true := isF_mk (ci := 9) (by rw [eT30]; exact IS.fresh) (by decide)
            have hL : LOK T30 P33 := by rw [eT30, eP33]; exact hL.new
            refine r_dup dX10_thingOf_91 rfl ?_
            refine r_iload_n dX10_thingOf_92 rfl rfl ?_
            refine r_iload_n dX10_thingOf_93 rfl rfl ?_
            refine r_iload_n dX10_thingOf_94 rfl rfl ?_
            refine r_iload dX10_thingOf_95 rfl ?_
            obtain ⟨x35, hx35, hF⟩ := bnd hF
            refine c_init_v (As := [.int p2, .int p3, .int p4, .int p5]) mi_X9_init rfl rfl kw_467 kw_466 (ok_X9_init hL i34 hx35) rfl rfl (Nat.le_of_ble_eq_true rfl) ⟨Nat.le_of_ble_eq_true rfl, Nat.le_of_ble_eq_true rfl⟩ ⟨Nat.le_of_ble_eq_true rfl, Nat.le_of_ble_eq_true rfl⟩ dX10_thingOf_97 ?_
            obtain rfl := Option.some.inj hF
            exact p_areturn rfl dX10_thingOf_100 hL (Nat.le_of_ble_eq_true rfl) (Nat.le_of_ble_eq_true rfl)
          · have hF := fw hF h29
            have eh1 := nei 1 (by decide) h1
            have eh8 := nei 2 (by decide) h8
            have eh15 := nei 3 (by decide) h15
            have eh22 := nei 4 (by decide) h22
            have eh29 := nei 5 (by decide) h29
            refine r_tableOut (tgt := 101) dX10_thingOf_1 (by omega) (by decide) ?_
            refine r_new ciX0 rfl kw_34 ⟨Nat.le_of_ble_eq_true rfl, Nat.le_of_ble_eq_true rfl⟩ dX10_thingOf_101 ?_
            refine r_letT hF (fun T36 eT36 hF => ?_)
            refine r_letI hF (fun I37 hF => ?_)
            refine r_letJ hF (fun J38 hF => ?_)
            refine r_letP hF (fun P39 eP39 hF => ?_)
            have i40 : isF T36 (64 + T.1) = true := isF_mk (ci := 0) (by rw [eT36]; exact IS.fresh) (by decide)
            have hL : LOK T36 P39 := by rw [eT36, eP39]; exact hL.new
            refine r_dup dX10_thingOf_104 rfl ?_
            refine r_iload_n dX10_thingOf_105 rfl rfl ?_
            refine r_iload_n dX10_thingOf_106 rfl rfl ?_
            refine r_iload_n dX10_thingOf_107 rfl rfl ?_
            refine r_iload dX10_thingOf_108 rfl ?_
            obtain ⟨x41, hx41, hF⟩ := bnd hF
            refine c_init_v (As := [.int p2, .int p3, .int p4, .int p5]) mi_X0_init rfl rfl kw_402 kw_476 (ok_X0_init hL i40 hx41) rfl rfl (Nat.le_of_ble_eq_true rfl) ⟨Nat.le_of_ble_eq_true rfl, Nat.le_of_ble_eq_true rfl⟩ ⟨Nat.le_of_ble_eq_true rfl, Nat.le_of_ble_eq_true rfl⟩ dX10_thingOf_110 ?_
            obtain rfl := Option.some.inj hF
            exact p_areturn rfl dX10_thingOf_113 hL (Nat.le_of_ble_eq_true rfl) (Nat.le_of_ble_eq_true rfl)
def F_X10_addCard (T : TM) (I : IM) (J : JM) (P : PM) (w : Nat) (p1 : Int32) (p2 : Int32) (p3 : Int32) (p4 : Int32) : Option (Int32 × TM × IM × JM × PM) := (if (I w 1) < 0 then (some (0, T, I, J, P)) else (if (I w 1) < 6 then ((F_X10_thingOf T I J P p1 (I w 1) p2 p3 p4).bind (fun x3 => (osel x3.1 none (fun c5 => (if isF x3.2.1 c5 = true then (if inb (I w 1) 6 = true then (letb (up2 x3.2.2.2.2 (w + 1) (I w 1).toNatClampNeg (some c5)) (fun P9 : PM => (letb (up2 x3.2.2.1 w 1 ((x3.2.2.1 w 1) + 1)) (fun I10 : IM => (some (1, x3.2.1, I10, x3.2.2.2.1, P9)))))) else none) else none))))) else (some (0, T, I, J, P))))
set_option maxHeartbeats 4000000 in
theorem ok_X10_addCard {E : GE} {T : TM} {I : IM} {J : JM} {P : PM} {w : Nat} {p1 : Int32} {p2 : Int32} {p3 : Int32} {p4 : Int32} {x : Int32 × TM × IM × JM × PM} (hL : LOK T P) (hw : isW w) (hF : F_X10_addCard T I J P w p1 p2 p3 p4 = some x) : CtrP E (LOK x.2.1 x.2.2.2.2) mX10_addCard 5 1 4 [.ref w, .int p1, .int p2, .int p3, .int p4] T I J P (some (.int x.1)) x.2.1 x.2.2.1 x.2.2.2.1 x.2.2.2.2 := by
  unfold F_X10_addCard at hF
  refine ctrP_intro (by decide) (Nat.le_of_ble_eq_true rfl) ?_
  refine r_sub (ls' := [(4, .int p4), (3, .int p3), (2, .int p2), (1, .int p1), (0, .ref w)]) [4, 3, 2, 1, 0] rfl ?_
  refine r_aload_n dX10_addCard_0 rfl rfl ?_
  refine r_getI lk_X10_41 (wn_0 hL hw) dX10_addCard_1 ?_
  refine r_if_lt (tgt := 16) dX10_addCard_4 (by decide) (fun h1 => ?_) (fun h1 => ?_)
  · have hF := tw hF h1
    refine r_iconst (v := 0) dX10_addCard_16 (by decide) ?_
    obtain rfl := Option.some.inj hF
    exact p_ireturn (x := 0) rfl rfl dX10_addCard_17 hL (Nat.le_of_ble_eq_true rfl) (Nat.le_of_ble_eq_true rfl)
  · have hF := fw hF h1
    refine r_aload_n dX10_addCard_7 rfl rfl ?_
    refine r_getI lk_X10_41 (wn_0 hL hw) dX10_addCard_8 ?_
    refine r_bipush (v := 6) dX10_addCard_11 (by decide) ?_
    refine r_icmp_lt (tgt := 18) dX10_addCard_13 (by decide) (fun h2 => ?_) (fun h2 => ?_)
    · have hF := tw hF h2
      refine r_aload_n dX10_addCard_18 rfl rfl ?_
      refine r_getP lk_X10_11 (wn_0 hL hw) (wp_0 hL hw) dX10_addCard_19 ?_
      refine r_aload_n dX10_addCard_22 rfl rfl ?_
      refine r_getI lk_X10_41 (wn_0 hL hw) dX10_addCard_23 ?_
      refine r_iload_n dX10_addCard_26 rfl rfl ?_
      refine r_aload_n dX10_addCard_27 rfl rfl ?_
      refine r_getI lk_X10_41 (wn_0 hL hw) dX10_addCard_28 ?_
      refine r_iload_n dX10_addCard_31 rfl rfl ?_
      refine r_iload_n dX10_addCard_32 rfl rfl ?_
      refine r_iload dX10_addCard_33 rfl ?_
      obtain ⟨x3, hx3, hF⟩ := bnd hF
      refine ct_static_q (As := [.int p1, .int (I w 1), .int p2, .int p3, .int p4]) mi_X10_thingOf kw_394 kw_393 (ok_X10_thingOf hL  hx3) rfl rfl (Nat.le_of_ble_eq_true rfl) ⟨Nat.le_of_ble_eq_true rfl, Nat.le_of_ble_eq_true rfl⟩ ⟨Nat.le_of_ble_eq_true rfl, Nat.le_of_ble_eq_true rfl⟩ dX10_addCard_35 ?_
      intro hL b4a b4b
      rcases q6 : x3.1 with _ | c5
      · have hF := (osel_n q6).symm.trans hF
        cases hF
      · have hF := (osel_s q6).symm.trans hF
        refine r_show (st2 := .ref c5 :: _) (by first | rfl | (rw [q6]; rfl)) ?_
        obtain ⟨g7, hF⟩ := gd hF
        obtain ⟨g8, hF⟩ := gd hF
        refine r_aastF (wn_1 hL hw) (by rw [(wl_1 hL hw)]; exact g8) g7 dX10_addCard_38 ?_
        refine r_letP hF (fun P9 eP9 hF => ?_)
        have hL : LOK x3.2.1 P9 := by rw [eP9]; exact hL.up (wn_1 hL hw) (Or.inr rfl)
        refine r_aload_n dX10_addCard_39 rfl rfl ?_
        refine r_dup dX10_addCard_40 rfl ?_
        refine r_getI lk_X10_41 (wn_0 hL hw) dX10_addCard_41 ?_
        refine r_iconst (v := 1) dX10_addCard_44 (by decide) ?_
        refine r_iadd dX10_addCard_45 ?_
        refine r_putI lk_X10_41 (Or.inl rfl) (wn_0 hL hw) rfl rfl dX10_addCard_46 ?_
        refine r_letI hF (fun I10 hF => ?_)
        refine r_iconst (v := 1) dX10_addCard_49 (by decide) ?_
        obtain rfl := Option.some.inj hF
        exact p_ireturn (x := 1) rfl rfl dX10_addCard_50 hL (by omega) (by omega)
    · have hF := fw hF h2
      refine r_iconst (v := 0) dX10_addCard_16 (by decide) ?_
      obtain rfl := Option.some.inj hF
      exact p_ireturn (x := 0) rfl rfl dX10_addCard_17 hL (Nat.le_of_ble_eq_true rfl) (Nat.le_of_ble_eq_true rfl)
def F_X6_readCard (N : Nat) (T : TM) (I : IM) (J : JM) (P : PM) : Option (TM × IM × JM × PM) := (if 6 ≤ (I 75 1) then ((F_X6_blameHere I).bind (fun x4 => (some (T, x4, J, P)))) else ((F_X6_passKind N I).bind (fun x5 => (if 0 ≤ x5.1 then ((F_X6_readNumber N x5.2 1 99).bind (fun x7 => ((F_X6_passName N x7.2 13).bind (fun x8 => (if x8.1 = 0 then ((F_X6_blameHere x8.2).bind (fun x26 => ((F_X6_readNumber N x26 1 9).bind (fun x27 => ((F_X6_passName N x27.2 14).bind (fun x28 => (if x28.1 = 0 then ((F_X6_passEnd N x28.2).bind (fun x31 => (if (F_X6_isGood x31) = 0 then (some (T, x31, J, P)) else ((F_X10_addCard T x31 J P 75 x5.1 x7.1 x27.1 0).bind (fun x34 => (some (x34.2.1, x34.2.2.1, x34.2.2.2.1, x34.2.2.2.2))))))) else ((F_X6_readClip N x28.2).bind (fun x36 => ((F_X6_passEnd N x36.2).bind (fun x37 => (if (F_X6_isGood x37) = 0 then (some (T, x37, J, P)) else ((F_X10_addCard T x37 J P 75 x5.1 x7.1 x27.1 x36.1).bind (fun x40 => (some (x40.2.1, x40.2.2.1, x40.2.2.2.1, x40.2.2.2.2)))))))))))))))) else ((F_X6_readNumber N x8.2 1 9).bind (fun x11 => ((F_X6_passName N x11.2 14).bind (fun x12 => (if x12.1 = 0 then ((F_X6_passEnd N x12.2).bind (fun x15 => (if (F_X6_isGood x15) = 0 then (some (T, x15, J, P)) else ((F_X10_addCard T x15 J P 75 x5.1 x7.1 x11.1 0).bind (fun x18 => (some (x18.2.1, x18.2.2.1, x18.2.2.2.1, x18.2.2.2.2))))))) else ((F_X6_readClip N x12.2).bind (fun x20 => ((F_X6_passEnd N x20.2).bind (fun x21 => (if (F_X6_isGood x21) = 0 then (some (T, x21, J, P)) else ((F_X10_addCard T x21 J P 75 x5.1 x7.1 x11.1 x20.1).bind (fun x24 => (some (x24.2.1, x24.2.2.1, x24.2.2.2.1, x24.2.2.2.2))))))))))))))))))) else ((F_X6_blameHere x5.2).bind (fun x42 => (some (T, x42, J, P))))))))
set_option maxHeartbeats 4000000 in
theorem ok_X6_readCard {E : GE} {T : TM} {I : IM} {J : JM} {P : PM} {N : Nat} {x : TM × IM × JM × PM} (hL : LOK T P) (hF : F_X6_readCard N T I J P = some x) : CtrP E (LOK x.1 x.2.2.2) mX6_readCard 6 1 4 [.ref 80, .ref 75] T I J P none x.1 x.2.1 x.2.2.1 x.2.2.2 := by
  unfold F_X6_readCard at hF
  refine ctrP_intro (by decide) (Nat.le_of_ble_eq_true rfl) ?_
  refine r_sub (ls' := [(1, .ref 75), (0, .ref 80)]) [1, 0] rfl ?_
  refine r_aload_n dX6_readCard_0 rfl rfl ?_
  refine r_getI lk_X6_67 (ln_75 hL) dX6_readCard_1 ?_
  refine r_bipush (v := 6) dX6_readCard_4 (by decide) ?_
  refine r_icmp_ge (tgt := 16) dX6_readCard_6 (by decide) (fun h2 => ?_) (fun h2 => ?_)
  · have hF := tw hF h2
    refine r_iconst (v := (-1)) dX6_readCard_16 (by decide) ?_
    refine r_istore_n (ls' := [(2, .int (-1)), (1, .ref 75), (0, .ref 80)]) dX6_readCard_17 rfl (by decide) rfl ?_
    refine r_iload_n dX6_readCard_18 rfl rfl ?_
    refine r_if_ge (tgt := 27) dX6_readCard_19 (by decide) (fun h3 => ?_) (fun h3 => ?_)
    · exact absurd h3 (by decide)
    · refine r_aload_n dX6_readCard_22 rfl rfl ?_
      obtain ⟨x4, hx4, hF⟩ := bnd hF
      refine c_virt_v (As := []) mi_X6_blameHere kw_351 ks_6 kw_349 rfl (by decide) (ln_80 hL) (ok_X6_blameHere hL  hx4) rfl rfl (Nat.le_of_ble_eq_true rfl) ⟨Nat.le_of_ble_eq_true rfl, Nat.le_of_ble_eq_true rfl⟩ ⟨Nat.le_of_ble_eq_true rfl, Nat.le_of_ble_eq_true rfl⟩ dX6_readCard_23 ?_
      obtain rfl := Option.some.inj hF
      exact p_return rfl dX6_readCard_26 hL (Nat.le_of_ble_eq_true rfl) (Nat.le_of_ble_eq_true rfl)
  · have hF := fw hF h2
    refine r_aload_n dX6_readCard_9 rfl rfl ?_
    obtain ⟨x5, hx5, hF⟩ := bnd hF
    refine c_virt_i (As := []) mi_X6_passKind kw_372 ks_11 kw_370 rfl (by decide) (ln_80 hL) (ok_X6_passKind hL  hx5) rfl rfl (Nat.le_of_ble_eq_true rfl) ⟨Nat.le_of_ble_eq_true rfl, Nat.le_of_ble_eq_true rfl⟩ ⟨Nat.le_of_ble_eq_true rfl, Nat.le_of_ble_eq_true rfl⟩ dX6_readCard_10 ?_
    refine r_goto (tgt := 17) dX6_readCard_13 (by decide) ?_
    refine r_istore_n (ls' := [(2, .int x5.1), (1, .ref 75), (0, .ref 80)]) dX6_readCard_17 rfl (by decide) rfl ?_
    refine r_iload_n dX6_readCard_18 rfl rfl ?_
    refine r_if_ge (tgt := 27) dX6_readCard_19 (by decide) (fun h6 => ?_) (fun h6 => ?_)
    · have hF := tw hF h6
      refine r_aload_n dX6_readCard_27 rfl rfl ?_
      refine r_iconst (v := 1) dX6_readCard_28 (by decide) ?_
      refine r_bipush (v := 99) dX6_readCard_29 (by decide) ?_
      obtain ⟨x7, hx7, hF⟩ := bnd hF
      refine c_virt_i (As := [.int 1, .int 99]) mi_X6_readNumber kw_344 ks_5 kw_342 rfl (by decide) (ln_80 hL) (ok_X6_readNumber hL  hx7) rfl rfl (Nat.le_of_ble_eq_true rfl) ⟨Nat.le_of_ble_eq_true rfl, Nat.le_of_ble_eq_true rfl⟩ ⟨Nat.le_of_ble_eq_true rfl, Nat.le_of_ble_eq_true rfl⟩ dX6_readCard_31 ?_
      refine r_istore_n (ls' := [(3, .int x7.1), (2, .int x5.1), (1, .ref 75), (0, .ref 80)]) dX6_readCard_34 rfl (by decide) rfl ?_
      refine r_aload_n dX6_readCard_35 rfl rfl ?_
      refine r_ldcS (i := 13) (by decide) rfl rfl dX6_readCard_36 ?_
      obtain ⟨x8, hx8, hF⟩ := bnd hF
      refine c_virt_i (As := [.ref 13]) mi_X6_passName kw_288 ks_3 kw_286 rfl (by decide) (ln_80 hL) (ok_X6_passName hL (by decide) hx8) rfl rfl (Nat.le_of_ble_eq_true rfl) ⟨Nat.le_of_ble_eq_true rfl, Nat.le_of_ble_eq_true rfl⟩ ⟨Nat.le_of_ble_eq_true rfl, Nat.le_of_ble_eq_true rfl⟩ dX6_readCard_38 ?_
      refine r_if_ne (tgt := 48) dX6_readCard_41 (by decide) (fun h10 => ?_) (fun h10 => ?_)
      · have hF := fw hF h10
        refine r_aload_n dX6_readCard_48 rfl rfl ?_
        refine r_iconst (v := 1) dX6_readCard_49 (by decide) ?_
        refine r_bipush (v := 9) dX6_readCard_50 (by decide) ?_
        obtain ⟨x11, hx11, hF⟩ := bnd hF
        refine c_virt_i (As := [.int 1, .int 9]) mi_X6_readNumber kw_344 ks_5 kw_342 rfl (by decide) (ln_80 hL) (ok_X6_readNumber hL  hx11) rfl rfl (Nat.le_of_ble_eq_true rfl) ⟨Nat.le_of_ble_eq_true rfl, Nat.le_of_ble_eq_true rfl⟩ ⟨Nat.le_of_ble_eq_true rfl, Nat.le_of_ble_eq_true rfl⟩ dX6_readCard_52 ?_
        refine r_istore (ls' := [(4, .int x11.1), (3, .int x7.1), (2, .int x5.1), (1, .ref 75), (0, .ref 80)]) dX6_readCard_55 (by decide) rfl ?_
        refine r_aload_n dX6_readCard_57 rfl rfl ?_
        refine r_ldcS (i := 14) (by decide) rfl rfl dX6_readCard_58 ?_
        obtain ⟨x12, hx12, hF⟩ := bnd hF
        refine c_virt_i (As := [.ref 14]) mi_X6_passName kw_288 ks_3 kw_286 rfl (by decide) (ln_80 hL) (ok_X6_passName hL (by decide) hx12) rfl rfl (Nat.le_of_ble_eq_true rfl) ⟨Nat.le_of_ble_eq_true rfl, Nat.le_of_ble_eq_true rfl⟩ ⟨Nat.le_of_ble_eq_true rfl, Nat.le_of_ble_eq_true rfl⟩ dX6_readCard_60 ?_
        refine r_if_eq (tgt := 73) dX6_readCard_63 (by decide) (fun h14 => ?_) (fun h14 => ?_)
        · have hF := tw hF h14
          refine r_iconst (v := 0) dX6_readCard_73 (by decide) ?_
          refine r_istore (ls' := [(5, .int 0), (4, .int x11.1), (3, .int x7.1), (2, .int x5.1), (1, .ref 75), (0, .ref 80)]) dX6_readCard_74 (by decide) rfl ?_
          refine r_aload_n dX6_readCard_76 rfl rfl ?_
          obtain ⟨x15, hx15, hF⟩ := bnd hF
          refine c_virt_v (As := []) mi_X6_passEnd kw_355 ks_7 kw_353 rfl (by decide) (ln_80 hL) (ok_X6_passEnd hL  hx15) rfl rfl (Nat.le_of_ble_eq_true rfl) ⟨Nat.le_of_ble_eq_true rfl, Nat.le_of_ble_eq_true rfl⟩ ⟨Nat.le_of_ble_eq_true rfl, Nat.le_of_ble_eq_true rfl⟩ dX6_readCard_77 ?_
          refine r_aload_n dX6_readCard_80 rfl rfl ?_
          refine c_virt_i (As := []) mi_X6_isGood kw_271 ks_1 kw_269 rfl (by decide) (ln_80 hL) (ok_X6_isGood hL  ) rfl rfl (Nat.le_of_ble_eq_true rfl) ⟨Nat.le_of_ble_eq_true rfl, Nat.le_of_ble_eq_true rfl⟩ ⟨Nat.le_of_ble_eq_true rfl, Nat.le_of_ble_eq_true rfl⟩ dX6_readCard_81 ?_
          refine r_if_eq (tgt := 98) dX6_readCard_84 (by decide) (fun h17 => ?_) (fun h17 => ?_)
          · have hF := tw hF h17
            obtain rfl := Option.some.inj hF
            exact p_return rfl dX6_readCard_98 hL (Nat.le_of_ble_eq_true rfl) (Nat.le_of_ble_eq_true rfl)
          · have hF := fw hF h17
            refine r_aload_n dX6_readCard_87 rfl rfl ?_
            refine r_iload_n dX6_readCard_88 rfl rfl ?_
            refine r_iload_n dX6_readCard_89 rfl rfl ?_
            refine r_iload dX6_readCard_90 rfl ?_
            refine r_iload dX6_readCard_92 rfl ?_
            obtain ⟨x18, hx18, hF⟩ := bnd hF
            refine ct_virt_i (As := [.int x5.1, .int x7.1, .int x11.1, .int 0]) mi_X10_addCard kw_390 kw_391 kw_389 rfl (by decide) (ln_75 hL) (ok_X10_addCard hL (isw_75) hx18) rfl rfl (Nat.le_of_ble_eq_true rfl) ⟨Nat.le_of_ble_eq_true rfl, Nat.le_of_ble_eq_true rfl⟩ ⟨Nat.le_of_ble_eq_true rfl, Nat.le_of_ble_eq_true rfl⟩ dX6_readCard_94 ?_
            intro hL b19a b19b
            refine r_pop dX6_readCard_97 rfl ?_
            obtain rfl := Option.some.inj hF
            exact p_return rfl dX6_readCard_98 hL (by omega) (by omega)
        · have hF := fw hF h14
          refine r_aload_n dX6_readCard_66 rfl rfl ?_
          obtain ⟨x20, hx20, hF⟩ := bnd hF
          refine c_virt_i (As := []) mi_X6_readClip kw_387 ks_12 kw_385 rfl (by decide) (ln_80 hL) (ok_X6_readClip hL  hx20) rfl rfl (Nat.le_of_ble_eq_true rfl) ⟨Nat.le_of_ble_eq_true rfl, Nat.le_of_ble_eq_true rfl⟩ ⟨Nat.le_of_ble_eq_true rfl, Nat.le_of_ble_eq_true rfl⟩ dX6_readCard_67 ?_
          refine r_goto (tgt := 74) dX6_readCard_70 (by decide) ?_
          refine r_istore (ls' := [(5, .int x20.1), (4, .int x11.1), (3, .int x7.1), (2, .int x5.1), (1, .ref 75), (0, .ref 80)]) dX6_readCard_74 (by decide) rfl ?_
          refine r_aload_n dX6_readCard_76 rfl rfl ?_
          obtain ⟨x21, hx21, hF⟩ := bnd hF
          refine c_virt_v (As := []) mi_X6_passEnd kw_355 ks_7 kw_353 rfl (by decide) (ln_80 hL) (ok_X6_passEnd hL  hx21) rfl rfl (Nat.le_of_ble_eq_true rfl) ⟨Nat.le_of_ble_eq_true rfl, Nat.le_of_ble_eq_true rfl⟩ ⟨Nat.le_of_ble_eq_true rfl, Nat.le_of_ble_eq_true rfl⟩ dX6_readCard_77 ?_
          refine r_aload_n dX6_readCard_80 rfl rfl ?_
          refine c_virt_i (As := []) mi_X6_isGood kw_271 ks_1 kw_269 rfl (by decide) (ln_80 hL) (ok_X6_isGood hL  ) rfl rfl (Nat.le_of_ble_eq_true rfl) ⟨Nat.le_of_ble_eq_true rfl, Nat.le_of_ble_eq_true rfl⟩ ⟨Nat.le_of_ble_eq_true rfl, Nat.le_of_ble_eq_true rfl⟩ dX6_readCard_81 ?_
          refine r_if_eq (tgt := 98) dX6_readCard_84 (by decide) (fun h23 => ?_) (fun h23 => ?_)
          · have hF := tw hF h23
            obtain rfl := Option.some.inj hF
            exact p_return rfl dX6_readCard_98 hL (Nat.le_of_ble_eq_true rfl) (Nat.le_of_ble_eq_true rfl)
          · have hF := fw hF h23
            refine r_aload_n dX6_readCard_87 rfl rfl ?_
            refine r_iload_n dX6_readCard_88 rfl rfl ?_
            refine r_iload_n dX6_readCard_89 rfl rfl ?_
            refine r_iload dX6_readCard_90 rfl ?_
            refine r_iload dX6_readCard_92 rfl ?_
            obtain ⟨x24, hx24, hF⟩ := bnd hF
            refine ct_virt_i (As := [.int x5.1, .int x7.1, .int x11.1, .int x20.1]) mi_X10_addCard kw_390 kw_391 kw_389 rfl (by decide) (ln_75 hL) (ok_X10_addCard hL (isw_75) hx24) rfl rfl (Nat.le_of_ble_eq_true rfl) ⟨Nat.le_of_ble_eq_true rfl, Nat.le_of_ble_eq_true rfl⟩ ⟨Nat.le_of_ble_eq_true rfl, Nat.le_of_ble_eq_true rfl⟩ dX6_readCard_94 ?_
            intro hL b25a b25b
            refine r_pop dX6_readCard_97 rfl ?_
            obtain rfl := Option.some.inj hF
            exact p_return rfl dX6_readCard_98 hL (by omega) (by omega)
      · have hF := tw hF h10
        refine r_aload_n dX6_readCard_44 rfl rfl ?_
        obtain ⟨x26, hx26, hF⟩ := bnd hF
        refine c_virt_v (As := []) mi_X6_blameHere kw_351 ks_6 kw_349 rfl (by decide) (ln_80 hL) (ok_X6_blameHere hL  hx26) rfl rfl (Nat.le_of_ble_eq_true rfl) ⟨Nat.le_of_ble_eq_true rfl, Nat.le_of_ble_eq_true rfl⟩ ⟨Nat.le_of_ble_eq_true rfl, Nat.le_of_ble_eq_true rfl⟩ dX6_readCard_45 ?_
        refine r_aload_n dX6_readCard_48 rfl rfl ?_
        refine r_iconst (v := 1) dX6_readCard_49 (by decide) ?_
        refine r_bipush (v := 9) dX6_readCard_50 (by decide) ?_
        obtain ⟨x27, hx27, hF⟩ := bnd hF
        refine c_virt_i (As := [.int 1, .int 9]) mi_X6_readNumber kw_344 ks_5 kw_342 rfl (by decide) (ln_80 hL) (ok_X6_readNumber hL  hx27) rfl rfl (Nat.le_of_ble_eq_true rfl) ⟨Nat.le_of_ble_eq_true rfl, Nat.le_of_ble_eq_true rfl⟩ ⟨Nat.le_of_ble_eq_true rfl, Nat.le_of_ble_eq_true rfl⟩ dX6_readCard_52 ?_
        refine r_istore (ls' := [(4, .int x27.1), (3, .int x7.1), (2, .int x5.1), (1, .ref 75), (0, .ref 80)]) dX6_readCard_55 (by decide) rfl ?_
        refine r_aload_n dX6_readCard_57 rfl rfl ?_
        refine r_ldcS (i := 14) (by decide) rfl rfl dX6_readCard_58 ?_
        obtain ⟨x28, hx28, hF⟩ := bnd hF
        refine c_virt_i (As := [.ref 14]) mi_X6_passName kw_288 ks_3 kw_286 rfl (by decide) (ln_80 hL) (ok_X6_passName hL (by decide) hx28) rfl rfl (Nat.le_of_ble_eq_true rfl) ⟨Nat.le_of_ble_eq_true rfl, Nat.le_of_ble_eq_true rfl⟩ ⟨Nat.le_of_ble_eq_true rfl, Nat.le_of_ble_eq_true rfl⟩ dX6_readCard_60 ?_
        refine r_if_eq (tgt := 73) dX6_readCard_63 (by decide) (fun h30 => ?_) (fun h30 => ?_)
        · have hF := tw hF h30
          refine r_iconst (v := 0) dX6_readCard_73 (by decide) ?_
          refine r_istore (ls' := [(5, .int 0), (4, .int x27.1), (3, .int x7.1), (2, .int x5.1), (1, .ref 75), (0, .ref 80)]) dX6_readCard_74 (by decide) rfl ?_
          refine r_aload_n dX6_readCard_76 rfl rfl ?_
          obtain ⟨x31, hx31, hF⟩ := bnd hF
          refine c_virt_v (As := []) mi_X6_passEnd kw_355 ks_7 kw_353 rfl (by decide) (ln_80 hL) (ok_X6_passEnd hL  hx31) rfl rfl (Nat.le_of_ble_eq_true rfl) ⟨Nat.le_of_ble_eq_true rfl, Nat.le_of_ble_eq_true rfl⟩ ⟨Nat.le_of_ble_eq_true rfl, Nat.le_of_ble_eq_true rfl⟩ dX6_readCard_77 ?_
          refine r_aload_n dX6_readCard_80 rfl rfl ?_
          refine c_virt_i (As := []) mi_X6_isGood kw_271 ks_1 kw_269 rfl (by decide) (ln_80 hL) (ok_X6_isGood hL  ) rfl rfl (Nat.le_of_ble_eq_true rfl) ⟨Nat.le_of_ble_eq_true rfl, Nat.le_of_ble_eq_true rfl⟩ ⟨Nat.le_of_ble_eq_true rfl, Nat.le_of_ble_eq_true rfl⟩ dX6_readCard_81 ?_
          refine r_if_eq (tgt := 98) dX6_readCard_84 (by decide) (fun h33 => ?_) (fun h33 => ?_)
          · have hF := tw hF h33
            obtain rfl := Option.some.inj hF
            exact p_return rfl dX6_readCard_98 hL (Nat.le_of_ble_eq_true rfl) (Nat.le_of_ble_eq_true rfl)
          · have hF := fw hF h33
            refine r_aload_n dX6_readCard_87 rfl rfl ?_
            refine r_iload_n dX6_readCard_88 rfl rfl ?_
            refine r_iload_n dX6_readCard_89 rfl rfl ?_
            refine r_iload dX6_readCard_90 rfl ?_
            refine r_iload dX6_readCard_92 rfl ?_
            obtain ⟨x34, hx34, hF⟩ := bnd hF
            refine ct_virt_i (As := [.int x5.1, .int x7.1, .int x27.1, .int 0]) mi_X10_addCard kw_390 kw_391 kw_389 rfl (by decide) (ln_75 hL) (ok_X10_addCard hL (isw_75) hx34) rfl rfl (Nat.le_of_ble_eq_true rfl) ⟨Nat.le_of_ble_eq_true rfl, Nat.le_of_ble_eq_true rfl⟩ ⟨Nat.le_of_ble_eq_true rfl, Nat.le_of_ble_eq_true rfl⟩ dX6_readCard_94 ?_
            intro hL b35a b35b
            refine r_pop dX6_readCard_97 rfl ?_
            obtain rfl := Option.some.inj hF
            exact p_return rfl dX6_readCard_98 hL (by omega) (by omega)
        · have hF := fw hF h30
          refine r_aload_n dX6_readCard_66 rfl rfl ?_
          obtain ⟨x36, hx36, hF⟩ := bnd hF
          refine c_virt_i (As := []) mi_X6_readClip kw_387 ks_12 kw_385 rfl (by decide) (ln_80 hL) (ok_X6_readClip hL  hx36) rfl rfl (Nat.le_of_ble_eq_true rfl) ⟨Nat.le_of_ble_eq_true rfl, Nat.le_of_ble_eq_true rfl⟩ ⟨Nat.le_of_ble_eq_true rfl, Nat.le_of_ble_eq_true rfl⟩ dX6_readCard_67 ?_
          refine r_goto (tgt := 74) dX6_readCard_70 (by decide) ?_
          refine r_istore (ls' := [(5, .int x36.1), (4, .int x27.1), (3, .int x7.1), (2, .int x5.1), (1, .ref 75), (0, .ref 80)]) dX6_readCard_74 (by decide) rfl ?_
          refine r_aload_n dX6_readCard_76 rfl rfl ?_
          obtain ⟨x37, hx37, hF⟩ := bnd hF
          refine c_virt_v (As := []) mi_X6_passEnd kw_355 ks_7 kw_353 rfl (by decide) (ln_80 hL) (ok_X6_passEnd hL  hx37) rfl rfl (Nat.le_of_ble_eq_true rfl) ⟨Nat.le_of_ble_eq_true rfl, Nat.le_of_ble_eq_true rfl⟩ ⟨Nat.le_of_ble_eq_true rfl, Nat.le_of_ble_eq_true rfl⟩ dX6_readCard_77 ?_
          refine r_aload_n dX6_readCard_80 rfl rfl ?_
          refine c_virt_i (As := []) mi_X6_isGood kw_271 ks_1 kw_269 rfl (by decide) (ln_80 hL) (ok_X6_isGood hL  ) rfl rfl (Nat.le_of_ble_eq_true rfl) ⟨Nat.le_of_ble_eq_true rfl, Nat.le_of_ble_eq_true rfl⟩ ⟨Nat.le_of_ble_eq_true rfl, Nat.le_of_ble_eq_true rfl⟩ dX6_readCard_81 ?_
          refine r_if_eq (tgt := 98) dX6_readCard_84 (by decide) (fun h39 => ?_) (fun h39 => ?_)
          · have hF := tw hF h39
            obtain rfl := Option.some.inj hF
            exact p_return rfl dX6_readCard_98 hL (Nat.le_of_ble_eq_true rfl) (Nat.le_of_ble_eq_true rfl)
          · have hF := fw hF h39
            refine r_aload_n dX6_readCard_87 rfl rfl ?_
            refine r_iload_n dX6_readCard_88 rfl rfl ?_
            refine r_iload_n dX6_readCard_89 rfl rfl ?_
            refine r_iload dX6_readCard_90 rfl ?_
            refine r_iload dX6_readCard_92 rfl ?_
            obtain ⟨x40, hx40, hF⟩ := bnd hF
            refine ct_virt_i (As := [.int x5.1, .int x7.1, .int x27.1, .int x36.1]) mi_X10_addCard kw_390 kw_391 kw_389 rfl (by decide) (ln_75 hL) (ok_X10_addCard hL (isw_75) hx40) rfl rfl (Nat.le_of_ble_eq_true rfl) ⟨Nat.le_of_ble_eq_true rfl, Nat.le_of_ble_eq_true rfl⟩ ⟨Nat.le_of_ble_eq_true rfl, Nat.le_of_ble_eq_true rfl⟩ dX6_readCard_94 ?_
            intro hL b41a b41b
            refine r_pop dX6_readCard_97 rfl ?_
            obtain rfl := Option.some.inj hF
            exact p_return rfl dX6_readCard_98 hL (by omega) (by omega)
    · have hF := fw hF h6
      refine r_aload_n dX6_readCard_22 rfl rfl ?_
      obtain ⟨x42, hx42, hF⟩ := bnd hF
      refine c_virt_v (As := []) mi_X6_blameHere kw_351 ks_6 kw_349 rfl (by decide) (ln_80 hL) (ok_X6_blameHere hL  hx42) rfl rfl (Nat.le_of_ble_eq_true rfl) ⟨Nat.le_of_ble_eq_true rfl, Nat.le_of_ble_eq_true rfl⟩ ⟨Nat.le_of_ble_eq_true rfl, Nat.le_of_ble_eq_true rfl⟩ dX6_readCard_23 ?_
      obtain rfl := Option.some.inj hF
      exact p_return rfl dX6_readCard_26 hL (Nat.le_of_ble_eq_true rfl) (Nat.le_of_ble_eq_true rfl)
def G_X6_readPart_2 (N : Nat) (T : TM) (J : JM) (P : PM) : Nat → Int32 → IM → Option (TM × IM × JM × PM)
  | 0, _, _ => none
  | n + 1, u2, Iv => (if 6 ≤ u2 then ((F_X6_passName N Iv 6).bind (fun x2 => (if x2.1 = 0 then ((F_X6_readCard N T x2.2 J P).bind (fun x5 => (some (x5.1, x5.2.1, x5.2.2.1, x5.2.2.2)))) else ((F_X6_readHand N x2.2).bind (fun x7 => (some (T, x7, J, P))))))) else ((F_X6_passName N Iv (F_X6_lawName u2)).bind (fun x8 => (if x8.1 = 0 then (G_X6_readPart_2 N T J P n (u2 + 1) x8.2) else ((F_X6_readNumber N x8.2 0 63).bind (fun x10 => (if inb u2 6 = true then (letb (up2 x10.2 77 u2.toNatClampNeg x10.1) (fun I12 : IM => ((F_X6_passEnd N I12).bind (fun x13 => (some (T, x13, J, P)))))) else none)))))))
set_option maxHeartbeats 4000000 in
theorem okG_X6_readPart_2 {E : GE} {T : TM} {J : JM} {P : PM} {N : Nat} {x : TM × IM × JM × PM} (hL : LOK T P) : ∀ (n : Nat) (u2 : Int32) (Iv : IM), G_X6_readPart_2 N T J P n u2 Iv = some x → WW E mX6_readPart (RM 7 1 4) (ZP E (LOK x.1 x.2.2.2) 1 4 none x.1 x.2.1 x.2.2.1 x.2.2.2) 0 0 T Iv J P 2 [(0, .ref 80), (1, .ref 75), (2, .int u2)] [] := by
  intro n
  induction n with
  | zero =>
    intro u2 Iv hF
    cases hF
  | succ n ih =>
    intro u2 Iv hF
    rw [G_X6_readPart_2] at hF
    refine r_iload_n dX6_readPart_2 rfl rfl ?_
    refine r_bipush (v := 6) dX6_readPart_3 (by decide) ?_
    refine r_icmp_ge (tgt := 43) dX6_readPart_5 (by decide) (fun h1 => ?_) (fun h1 => ?_)
    · have hF := tw hF h1
      refine r_aload_n dX6_readPart_43 rfl rfl ?_
      refine r_ldcS (i := 6) (by decide) rfl rfl dX6_readPart_44 ?_
      obtain ⟨x2, hx2, hF⟩ := bnd hF
      refine c_virt_i (As := [.ref 6]) mi_X6_passName kw_288 ks_3 kw_286 rfl (by decide) (ln_80 hL) (ok_X6_passName hL (by decide) hx2) rfl rfl (Nat.le_of_ble_eq_true rfl) ⟨Nat.le_of_ble_eq_true rfl, Nat.le_of_ble_eq_true rfl⟩ ⟨Nat.le_of_ble_eq_true rfl, Nat.le_of_ble_eq_true rfl⟩ dX6_readPart_46 ?_
      refine r_if_eq (tgt := 60) dX6_readPart_49 (by decide) (fun h4 => ?_) (fun h4 => ?_)
      · have hF := tw hF h4
        refine r_aload_n dX6_readPart_60 rfl rfl ?_
        refine r_aload_n dX6_readPart_61 rfl rfl ?_
        obtain ⟨x5, hx5, hF⟩ := bnd hF
        refine ct_virt_v (As := [.ref 75]) mi_X6_readCard kw_368 ks_10 kw_366 rfl (by decide) (ln_80 hL) (ok_X6_readCard hL  hx5) rfl rfl (Nat.le_of_ble_eq_true rfl) ⟨Nat.le_of_ble_eq_true rfl, Nat.le_of_ble_eq_true rfl⟩ ⟨Nat.le_of_ble_eq_true rfl, Nat.le_of_ble_eq_true rfl⟩ dX6_readPart_62 ?_
        intro hL b6a b6b
        obtain rfl := Option.some.inj hF
        exact p_return rfl dX6_readPart_65 hL (by omega) (by omega)
      · have hF := fw hF h4
        refine r_aload_n dX6_readPart_52 rfl rfl ?_
        refine r_aload_n dX6_readPart_53 rfl rfl ?_
        obtain ⟨x7, hx7, hF⟩ := bnd hF
        refine c_virt_v (As := [.ref 75]) mi_X6_readHand kw_364 ks_9 kw_362 rfl (by decide) (ln_80 hL) (ok_X6_readHand hL  hx7) rfl rfl (Nat.le_of_ble_eq_true rfl) ⟨Nat.le_of_ble_eq_true rfl, Nat.le_of_ble_eq_true rfl⟩ ⟨Nat.le_of_ble_eq_true rfl, Nat.le_of_ble_eq_true rfl⟩ dX6_readPart_54 ?_
        refine r_goto (tgt := 65) dX6_readPart_57 (by decide) ?_
        obtain rfl := Option.some.inj hF
        exact p_return rfl dX6_readPart_65 hL (Nat.le_of_ble_eq_true rfl) (Nat.le_of_ble_eq_true rfl)
    · have hF := fw hF h1
      refine r_aload_n dX6_readPart_8 rfl rfl ?_
      refine r_iload_n dX6_readPart_9 rfl rfl ?_
      refine c_static_r (As := [.int u2]) mi_X6_lawName kw_278 kw_277 (ok_X6_lawName hL (p1 := u2)) rfl rfl (Nat.le_of_ble_eq_true rfl) ⟨Nat.le_of_ble_eq_true rfl, Nat.le_of_ble_eq_true rfl⟩ ⟨Nat.le_of_ble_eq_true rfl, Nat.le_of_ble_eq_true rfl⟩ dX6_readPart_10 ?_
      obtain ⟨x8, hx8, hF⟩ := bnd hF
      refine c_virt_i (As := [.ref (F_X6_lawName u2)]) mi_X6_passName kw_288 ks_3 kw_286 rfl (by decide) (ln_80 hL) (ok_X6_passName hL (lt_X6_lawName _) hx8) rfl rfl (Nat.le_of_ble_eq_true rfl) ⟨Nat.le_of_ble_eq_true rfl, Nat.le_of_ble_eq_true rfl⟩ ⟨Nat.le_of_ble_eq_true rfl, Nat.le_of_ble_eq_true rfl⟩ dX6_readPart_13 ?_
      refine r_if_eq (tgt := 37) dX6_readPart_16 (by decide) (fun h9 => ?_) (fun h9 => ?_)
      · have hF := tw hF h9
        refine r_iinc (v := (u2 + 1)) (ls' := [(2, .int (u2 + 1)), (0, .ref 80), (1, .ref 75)]) dX6_readPart_37 rfl rfl (by decide) rfl ?_
        refine r_goto (tgt := 2) dX6_readPart_40 (by decide) ?_
        refine r_sub (ls' := [(0, .ref 80), (1, .ref 75), (2, .int (u2 + 1))]) [1, 2, 0] rfl ?_
        exact ih (u2 + 1) x8.2 hF
      · have hF := fw hF h9
        refine r_aload_n dX6_readPart_19 rfl rfl ?_
        refine r_getP lk_X6_44 (ln_75 hL) (pp_75_2 hL) dX6_readPart_20 ?_
        refine r_iload_n dX6_readPart_23 rfl rfl ?_
        refine r_aload_n dX6_readPart_24 rfl rfl ?_
        refine r_iconst (v := 0) dX6_readPart_25 (by decide) ?_
        refine r_bipush (v := 63) dX6_readPart_26 (by decide) ?_
        obtain ⟨x10, hx10, hF⟩ := bnd hF
        refine c_virt_i (As := [.int 0, .int 63]) mi_X6_readNumber kw_344 ks_5 kw_342 rfl (by decide) (ln_80 hL) (ok_X6_readNumber hL  hx10) rfl rfl (Nat.le_of_ble_eq_true rfl) ⟨Nat.le_of_ble_eq_true rfl, Nat.le_of_ble_eq_true rfl⟩ ⟨Nat.le_of_ble_eq_true rfl, Nat.le_of_ble_eq_true rfl⟩ dX6_readPart_28 ?_
        obtain ⟨g11, hF⟩ := gd hF
        refine r_iast (ln_77 hL) (by rw [(nl_77 hL)]; exact g11) dX6_readPart_31 ?_
        refine r_letI hF (fun I12 hF => ?_)
        refine r_aload_n dX6_readPart_32 rfl rfl ?_
        obtain ⟨x13, hx13, hF⟩ := bnd hF
        refine c_virt_v (As := []) mi_X6_passEnd kw_355 ks_7 kw_353 rfl (by decide) (ln_80 hL) (ok_X6_passEnd hL  hx13) rfl rfl (Nat.le_of_ble_eq_true rfl) ⟨Nat.le_of_ble_eq_true rfl, Nat.le_of_ble_eq_true rfl⟩ ⟨Nat.le_of_ble_eq_true rfl, Nat.le_of_ble_eq_true rfl⟩ dX6_readPart_33 ?_
        obtain rfl := Option.some.inj hF
        exact p_return rfl dX6_readPart_36 hL (Nat.le_of_ble_eq_true rfl) (Nat.le_of_ble_eq_true rfl)
def F_X6_readPart (N : Nat) (T : TM) (I : IM) (J : JM) (P : PM) : Option (TM × IM × JM × PM) := (G_X6_readPart_2 N T J P N 0 I)
set_option maxHeartbeats 4000000 in
theorem ok_X6_readPart {E : GE} {T : TM} {I : IM} {J : JM} {P : PM} {N : Nat} {x : TM × IM × JM × PM} (hL : LOK T P) (hF : F_X6_readPart N T I J P = some x) : CtrP E (LOK x.1 x.2.2.2) mX6_readPart 7 1 4 [.ref 80, .ref 75] T I J P none x.1 x.2.1 x.2.2.1 x.2.2.2 := by
  unfold F_X6_readPart at hF
  refine ctrP_intro (by decide) (Nat.le_of_ble_eq_true rfl) ?_
  refine r_sub (ls' := [(1, .ref 75), (0, .ref 80)]) [1, 0] rfl ?_
  refine r_iconst (v := 0) dX6_readPart_0 (by decide) ?_
  refine r_istore_n (ls' := [(2, .int 0), (1, .ref 75), (0, .ref 80)]) dX6_readPart_1 rfl (by decide) rfl ?_
  refine r_sub (ls' := [(0, .ref 80), (1, .ref 75), (2, .int 0)]) [2, 1, 0] rfl ?_
  exact okG_X6_readPart_2 hL   N 0 I hF
def F_X11_card (T : TM) (I : IM) (J : JM) (P : PM) (p1 : Int32) (p2 : Int32) (p3 : Int32) (p4 : Int32) : Option (Int32 × TM × IM × JM × PM) := (if p1 < 0 then (some ((-1), T, I, J, P)) else (if 5 < p1 then (some ((-1), T, I, J, P)) else (if p2 < 1 then (some ((-1), T, I, J, P)) else (if p2 ≤ 99 then (if p3 < 1 then (some ((-1), T, I, J, P)) else (if 9 < p3 then (some ((-1), T, I, J, P)) else (if p4 < (-4) then (some ((-1), T, I, J, P)) else (if p4 ≤ 4 then ((F_X10_addCard T I J P 65 p1 p2 p3 p4).bind (fun x9 => (if x9.1 = 0 then (some ((-2), x9.2.1, x9.2.2.1, x9.2.2.2.1, x9.2.2.2.2)) else (some (((x9.2.2.1 65 1) - 1), x9.2.1, x9.2.2.1, x9.2.2.2.1, x9.2.2.2.2))))) else (some ((-1), T, I, J, P)))))) else (some ((-1), T, I, J, P))))))
set_option maxHeartbeats 4000000 in
theorem ok_X11_card {E : GE} {T : TM} {I : IM} {J : JM} {P : PM} {p1 : Int32} {p2 : Int32} {p3 : Int32} {p4 : Int32} {x : Int32 × TM × IM × JM × PM} (hL : LOK T P) (hF : F_X11_card T I J P p1 p2 p3 p4 = some x) : CtrP E (LOK x.2.1 x.2.2.2.2) mX11_card 6 1 4 [.ref 64, .int p1, .int p2, .int p3, .int p4] T I J P (some (.int x.1)) x.2.1 x.2.2.1 x.2.2.2.1 x.2.2.2.2 := by
  unfold F_X11_card at hF
  refine ctrP_intro (by decide) (Nat.le_of_ble_eq_true rfl) ?_
  refine r_sub (ls' := [(4, .int p4), (3, .int p3), (2, .int p2), (1, .int p1), (0, .ref 64)]) [4, 3, 2, 1, 0] rfl ?_
  refine r_iload_n dX11_card_0 rfl rfl ?_
  refine r_if_lt (tgt := 20) dX11_card_1 (by decide) (fun h1 => ?_) (fun h1 => ?_)
  · have hF := tw hF h1
    refine r_iconst (v := (-1)) dX11_card_20 (by decide) ?_
    obtain rfl := Option.some.inj hF
    exact p_ireturn (x := (-1)) rfl rfl dX11_card_21 hL (Nat.le_of_ble_eq_true rfl) (Nat.le_of_ble_eq_true rfl)
  · have hF := fw hF h1
    refine r_iload_n dX11_card_4 rfl rfl ?_
    refine r_iconst (v := 5) dX11_card_5 (by decide) ?_
    refine r_icmp_gt (tgt := 20) dX11_card_6 (by decide) (fun h2 => ?_) (fun h2 => ?_)
    · have hF := tw hF h2
      refine r_iconst (v := (-1)) dX11_card_20 (by decide) ?_
      obtain rfl := Option.some.inj hF
      exact p_ireturn (x := (-1)) rfl rfl dX11_card_21 hL (Nat.le_of_ble_eq_true rfl) (Nat.le_of_ble_eq_true rfl)
    · have hF := fw hF h2
      refine r_iload_n dX11_card_9 rfl rfl ?_
      refine r_iconst (v := 1) dX11_card_10 (by decide) ?_
      refine r_icmp_lt (tgt := 20) dX11_card_11 (by decide) (fun h3 => ?_) (fun h3 => ?_)
      · have hF := tw hF h3
        refine r_iconst (v := (-1)) dX11_card_20 (by decide) ?_
        obtain rfl := Option.some.inj hF
        exact p_ireturn (x := (-1)) rfl rfl dX11_card_21 hL (Nat.le_of_ble_eq_true rfl) (Nat.le_of_ble_eq_true rfl)
      · have hF := fw hF h3
        refine r_iload_n dX11_card_14 rfl rfl ?_
        refine r_bipush (v := 99) dX11_card_15 (by decide) ?_
        refine r_icmp_le (tgt := 22) dX11_card_17 (by decide) (fun h4 => ?_) (fun h4 => ?_)
        · have hF := tw hF h4
          refine r_iload_n dX11_card_22 rfl rfl ?_
          refine r_iconst (v := 1) dX11_card_23 (by decide) ?_
          refine r_icmp_lt (tgt := 46) dX11_card_24 (by decide) (fun h5 => ?_) (fun h5 => ?_)
          · have hF := tw hF h5
            refine r_iconst (v := (-1)) dX11_card_46 (by decide) ?_
            obtain rfl := Option.some.inj hF
            exact p_ireturn (x := (-1)) rfl rfl dX11_card_47 hL (Nat.le_of_ble_eq_true rfl) (Nat.le_of_ble_eq_true rfl)
          · have hF := fw hF h5
            refine r_iload_n dX11_card_27 rfl rfl ?_
            refine r_bipush (v := 9) dX11_card_28 (by decide) ?_
            refine r_icmp_gt (tgt := 46) dX11_card_30 (by decide) (fun h6 => ?_) (fun h6 => ?_)
            · have hF := tw hF h6
              refine r_iconst (v := (-1)) dX11_card_46 (by decide) ?_
              obtain rfl := Option.some.inj hF
              exact p_ireturn (x := (-1)) rfl rfl dX11_card_47 hL (Nat.le_of_ble_eq_true rfl) (Nat.le_of_ble_eq_true rfl)
            · have hF := fw hF h6
              refine r_iload dX11_card_33 rfl ?_
              refine r_bipush (v := (-4)) dX11_card_35 (by decide) ?_
              refine r_icmp_lt (tgt := 46) dX11_card_37 (by decide) (fun h7 => ?_) (fun h7 => ?_)
              · have hF := tw hF h7
                refine r_iconst (v := (-1)) dX11_card_46 (by decide) ?_
                obtain rfl := Option.some.inj hF
                exact p_ireturn (x := (-1)) rfl rfl dX11_card_47 hL (Nat.le_of_ble_eq_true rfl) (Nat.le_of_ble_eq_true rfl)
              · have hF := fw hF h7
                refine r_iload dX11_card_40 rfl ?_
                refine r_iconst (v := 4) dX11_card_42 (by decide) ?_
                refine r_icmp_le (tgt := 48) dX11_card_43 (by decide) (fun h8 => ?_) (fun h8 => ?_)
                · have hF := tw hF h8
                  refine r_aload_n dX11_card_48 rfl rfl ?_
                  refine r_getP lk_X11_10 (ln_64 hL) (pp_64_0 hL) dX11_card_49 ?_
                  refine r_iload_n dX11_card_52 rfl rfl ?_
                  refine r_iload_n dX11_card_53 rfl rfl ?_
                  refine r_iload_n dX11_card_54 rfl rfl ?_
                  refine r_iload dX11_card_55 rfl ?_
                  obtain ⟨x9, hx9, hF⟩ := bnd hF
                  refine ct_virt_i (As := [.int p1, .int p2, .int p3, .int p4]) mi_X10_addCard kw_390 kw_391 kw_486 rfl (by decide) (ln_65 hL) (ok_X10_addCard hL (isw_65) hx9) rfl rfl (Nat.le_of_ble_eq_true rfl) ⟨Nat.le_of_ble_eq_true rfl, Nat.le_of_ble_eq_true rfl⟩ ⟨Nat.le_of_ble_eq_true rfl, Nat.le_of_ble_eq_true rfl⟩ dX11_card_57 ?_
                  intro hL b10a b10b
                  refine r_if_eq (tgt := 75) dX11_card_60 (by decide) (fun h11 => ?_) (fun h11 => ?_)
                  · have hF := tw hF h11
                    refine r_bipush (v := (-2)) dX11_card_75 (by decide) ?_
                    obtain rfl := Option.some.inj hF
                    exact p_ireturn (x := (-2)) rfl rfl dX11_card_77 hL (by omega) (by omega)
                  · have hF := fw hF h11
                    refine r_aload_n dX11_card_63 rfl rfl ?_
                    refine r_getP lk_X11_10 (ln_64 hL) (pp_64_0 hL) dX11_card_64 ?_
                    refine r_getI lk_X11_94 (ln_65 hL) dX11_card_67 ?_
                    refine r_iconst (v := 1) dX11_card_70 (by decide) ?_
                    refine r_isub dX11_card_71 ?_
                    refine r_goto (tgt := 77) dX11_card_72 (by decide) ?_
                    obtain rfl := Option.some.inj hF
                    exact p_ireturn (x := ((x9.2.2.1 65 1) - 1)) rfl rfl dX11_card_77 hL (by omega) (by omega)
                · have hF := fw hF h8
                  refine r_iconst (v := (-1)) dX11_card_46 (by decide) ?_
                  obtain rfl := Option.some.inj hF
                  exact p_ireturn (x := (-1)) rfl rfl dX11_card_47 hL (Nat.le_of_ble_eq_true rfl) (Nat.le_of_ble_eq_true rfl)
        · have hF := fw hF h4
          refine r_iconst (v := (-1)) dX11_card_20 (by decide) ?_
          obtain rfl := Option.some.inj hF
          exact p_ireturn (x := (-1)) rfl rfl dX11_card_21 hL (Nat.le_of_ble_eq_true rfl) (Nat.le_of_ble_eq_true rfl)
def F_X10_cardAt (I : IM) (P : PM) (w : Nat) (p1 : Int32) : Option (Option Nat) := (if p1 < 0 then (some none) else (if (I w 1) ≤ p1 then (some none) else (if 6 ≤ p1 then (some none) else (osel (P (w + 1) p1.toNatClampNeg) (some none) (fun c7 => (some (some c7)))))))
set_option maxHeartbeats 4000000 in
theorem ok_X10_cardAt {E : GE} {T : TM} {I : IM} {J : JM} {P : PM} {w : Nat} {p1 : Int32} {x : Option Nat} (hL : LOK T P) (hw : isW w) (hF : F_X10_cardAt I P w p1 = some x) : Ctr E mX10_cardAt 0 0 0 [.ref w, .int p1] T I J P (some (rv x)) T I J P := by
  unfold F_X10_cardAt at hF
  refine ctr_intro rfl (by decide +kernel) (Nat.le_of_ble_eq_true rfl) ?_
  refine r_sub (ls' := [(1, .int p1), (0, .ref w)]) [1, 0] rfl ?_
  refine r_iload_n dX10_cardAt_0 rfl rfl ?_
  refine r_if_lt (tgt := 27) dX10_cardAt_1 (by decide) (fun h2 => ?_) (fun h2 => ?_)
  · have hF := tw hF h2
    refine r_null dX10_cardAt_27 ?_
    obtain rfl := Option.some.inj hF
    exact r_areturnN rfl dX10_cardAt_28 (Nat.le_of_ble_eq_true rfl) (Nat.le_of_ble_eq_true rfl)
  · have hF := fw hF h2
    refine r_iload_n dX10_cardAt_4 rfl rfl ?_
    refine r_aload_n dX10_cardAt_5 rfl rfl ?_
    refine r_getI lk_X10_41 (wn_0 hL hw) dX10_cardAt_6 ?_
    refine r_icmp_ge (tgt := 27) dX10_cardAt_9 (by decide) (fun h4 => ?_) (fun h4 => ?_)
    · have hF := tw hF h4
      refine r_null dX10_cardAt_27 ?_
      obtain rfl := Option.some.inj hF
      exact r_areturnN rfl dX10_cardAt_28 (Nat.le_of_ble_eq_true rfl) (Nat.le_of_ble_eq_true rfl)
    · have hF := fw hF h4
      refine r_iload_n dX10_cardAt_12 rfl rfl ?_
      refine r_bipush (v := 6) dX10_cardAt_13 (by decide) ?_
      refine r_icmp_ge (tgt := 27) dX10_cardAt_15 (by decide) (fun h6 => ?_) (fun h6 => ?_)
      · have hF := tw hF h6
        refine r_null dX10_cardAt_27 ?_
        obtain rfl := Option.some.inj hF
        exact r_areturnN rfl dX10_cardAt_28 (Nat.le_of_ble_eq_true rfl) (Nat.le_of_ble_eq_true rfl)
      · have hF := fw hF h6
        refine r_aload_n dX10_cardAt_18 rfl rfl ?_
        refine r_getP lk_X10_11 (wn_0 hL hw) (wp_0 hL hw) dX10_cardAt_19 ?_
        refine r_iload_n dX10_cardAt_22 rfl rfl ?_
        rcases q8 : (P (w + 1) p1.toNatClampNeg) with _ | c7
        · have hF := (osel_n q8).symm.trans hF
          refine r_aaldN (wn_1 hL hw) (Or.inl rfl) (by rw [(wl_1 hL hw)]; exact inb_ge h2 h6 (by decide)) dX10_cardAt_23 q8 ?_
          refine r_goto (tgt := 28) dX10_cardAt_24 (by decide) ?_
          obtain rfl := Option.some.inj hF
          exact r_areturnN rfl dX10_cardAt_28 (Nat.le_of_ble_eq_true rfl) (Nat.le_of_ble_eq_true rfl)
        · have hF := (osel_s q8).symm.trans hF
          refine r_aald (wn_1 hL hw) (Or.inl rfl) (by rw [(wl_1 hL hw)]; exact inb_ge h2 h6 (by decide)) dX10_cardAt_23 q8 ?_
          refine r_goto (tgt := 28) dX10_cardAt_24 (by decide) ?_
          obtain rfl := Option.some.inj hF
          exact r_areturn rfl dX10_cardAt_28 (Nat.le_of_ble_eq_true rfl) (Nat.le_of_ble_eq_true rfl)
def F_X0_kind (T : TM) (c : Nat) : Int32 := 0
set_option maxHeartbeats 4000000 in
theorem ok_X0_kind {E : GE} {T : TM} {I : IM} {J : JM} {P : PM} {c : Nat} (hL : LOK T P) (hc : isF T c = true) : Ctr E mX0_kind 0 0 0 [.ref c] T I J P (some (.int (F_X0_kind T c))) T I J P := by
  generalize hF : F_X0_kind T c = r
  unfold F_X0_kind at hF
  refine ctr_intro rfl (by decide +kernel) (Nat.le_of_ble_eq_true rfl) ?_
  refine r_sub (ls' := [(0, .ref c)]) [0] rfl ?_
  refine r_iconst (v := 0) dX0_kind_0 (by decide) ?_
  obtain rfl := hF
  exact r_ireturn (x := 0) rfl rfl dX0_kind_1 (Nat.le_of_ble_eq_true rfl) (Nat.le_of_ble_eq_true rfl)
def F_X2_kind (T : TM) (c : Nat) : Int32 := 4
set_option maxHeartbeats 4000000 in
theorem ok_X2_kind {E : GE} {T : TM} {I : IM} {J : JM} {P : PM} {c : Nat} (hL : LOK T P) (hc : isF T c = true) : Ctr E mX2_kind 0 0 0 [.ref c] T I J P (some (.int (F_X2_kind T c))) T I J P := by
  generalize hF : F_X2_kind T c = r
  unfold F_X2_kind at hF
  refine ctr_intro rfl (by decide +kernel) (Nat.le_of_ble_eq_true rfl) ?_
  refine r_sub (ls' := [(0, .ref c)]) [0] rfl ?_
  refine r_iconst (v := 4) dX2_kind_0 (by decide) ?_
  obtain rfl := hF
  exact r_ireturn (x := 4) rfl rfl dX2_kind_1 (Nat.le_of_ble_eq_true rfl) (Nat.le_of_ble_eq_true rfl)
def F_X4_kind (T : TM) (c : Nat) : Int32 := 1
set_option maxHeartbeats 4000000 in
theorem ok_X4_kind {E : GE} {T : TM} {I : IM} {J : JM} {P : PM} {c : Nat} (hL : LOK T P) (hc : isF T c = true) : Ctr E mX4_kind 0 0 0 [.ref c] T I J P (some (.int (F_X4_kind T c))) T I J P := by
  generalize hF : F_X4_kind T c = r
  unfold F_X4_kind at hF
  refine ctr_intro rfl (by decide +kernel) (Nat.le_of_ble_eq_true rfl) ?_
  refine r_sub (ls' := [(0, .ref c)]) [0] rfl ?_
  refine r_iconst (v := 1) dX4_kind_0 (by decide) ?_
  obtain rfl := hF
  exact r_ireturn (x := 1) rfl rfl dX4_kind_1 (Nat.le_of_ble_eq_true rfl) (Nat.le_of_ble_eq_true rfl)
def F_X5_kind (T : TM) (c : Nat) : Int32 := 2
set_option maxHeartbeats 4000000 in
theorem ok_X5_kind {E : GE} {T : TM} {I : IM} {J : JM} {P : PM} {c : Nat} (hL : LOK T P) (hc : isF T c = true) (hk : T.2.1 c = 5) : Ctr E mX5_kind 0 0 0 [.ref c] T I J P (some (.int (F_X5_kind T c))) T I J P := by
  generalize hF : F_X5_kind T c = r
  unfold F_X5_kind at hF
  refine ctr_intro rfl (by decide +kernel) (Nat.le_of_ble_eq_true rfl) ?_
  refine r_sub (ls' := [(0, .ref c)]) [0] rfl ?_
  refine r_iconst (v := 2) dX5_kind_0 (by decide) ?_
  obtain rfl := hF
  exact r_ireturn (x := 2) rfl rfl dX5_kind_1 (Nat.le_of_ble_eq_true rfl) (Nat.le_of_ble_eq_true rfl)
def F_X8_kind (T : TM) (c : Nat) : Int32 := 3
set_option maxHeartbeats 4000000 in
theorem ok_X8_kind {E : GE} {T : TM} {I : IM} {J : JM} {P : PM} {c : Nat} (hL : LOK T P) (hc : isF T c = true) : Ctr E mX8_kind 0 0 0 [.ref c] T I J P (some (.int (F_X8_kind T c))) T I J P := by
  generalize hF : F_X8_kind T c = r
  unfold F_X8_kind at hF
  refine ctr_intro rfl (by decide +kernel) (Nat.le_of_ble_eq_true rfl) ?_
  refine r_sub (ls' := [(0, .ref c)]) [0] rfl ?_
  refine r_iconst (v := 3) dX8_kind_0 (by decide) ?_
  obtain rfl := hF
  exact r_ireturn (x := 3) rfl rfl dX8_kind_1 (Nat.le_of_ble_eq_true rfl) (Nat.le_of_ble_eq_true rfl)
def F_X9_kind (T : TM) (c : Nat) : Int32 := 5
set_option maxHeartbeats 4000000 in
theorem ok_X9_kind {E : GE} {T : TM} {I : IM} {J : JM} {P : PM} {c : Nat} (hL : LOK T P) (hc : isF T c = true) (hk : T.2.1 c = 9) : Ctr E mX9_kind 0 0 0 [.ref c] T I J P (some (.int (F_X9_kind T c))) T I J P := by
  generalize hF : F_X9_kind T c = r
  unfold F_X9_kind at hF
  refine ctr_intro rfl (by decide +kernel) (Nat.le_of_ble_eq_true rfl) ?_
  refine r_sub (ls' := [(0, .ref c)]) [0] rfl ?_
  refine r_iconst (v := 5) dX9_kind_0 (by decide) ?_
  obtain rfl := hF
  exact r_ireturn (x := 5) rfl rfl dX9_kind_1 (Nat.le_of_ble_eq_true rfl) (Nat.le_of_ble_eq_true rfl)
def F_V_kind (T : TM) (c : Nat) : Int32 := (if T.2.1 c = 0 then F_X0_kind T c else (if T.2.1 c = 2 then F_X2_kind T c else (if T.2.1 c = 4 then F_X4_kind T c else (if T.2.1 c = 5 then F_X5_kind T c else (if T.2.1 c = 8 then F_X8_kind T c else (if T.2.1 c = 9 then F_X9_kind T c else 0))))))
set_option maxHeartbeats 4000000 in
theorem vs_X11_105 {E : GE} {M : MD} {R : Room} {Z : State → Array Value → List Frame → State → Prop} {kc ks : Nat} {T : TM} {I : IM} {J : JM} {P : PM} {pc : Nat} {ls : List (Nat × Value)} {st stk : List Value} {c : Nat} {x : Int32} (hL : LOK T P) (hc : isF T c = true) (hx : F_V_kind T c = x) (hown : M.1.cls = RX11) (hstk : stk = [].reverse ++ .ref c :: st) (hcat : (st.map fun v => v.category).sum ≤ 8) (hR : 0 + 1 ≤ R.frames ∧ 36 + 37 * 0 ≤ R.locals) (hf : kc ≤ R.cells ∧ ks ≤ R.slots) (hd : decode M.2.1 pc = .ok (.invokevirtual 105, 3)) (kk : WW E M R Z kc ks T I J P (pc + 3) ls (.int x :: st)) : WW E M R Z kc ks T I J P pc ls stk := by
  obtain ⟨ci, hci, hI⟩ := isF_of hc
  unfold F_V_kind at hx
  have hk := hI.2.2
  simp only [fks, List.mem_cons, List.not_mem_nil, or_false] at hci
  rcases hci with rfl | rfl | rfl | rfl | rfl | rfl
  · have hx := tw (hx) hk
    obtain rfl := hx
    exact c_virtU_i (ci := 0) (x0 := yX0_kind) mi_X0_kind (by rw [hown]; exact kw_495) kw_498 kw_496 kw_497 kw_496 kw_514 ⟨by decide, by decide, by decide +kernel⟩ rfl (by decide) hI (ok_X0_kind hL hc) rfl hstk hcat ⟨Nat.le_trans (Nat.le_of_ble_eq_true rfl : 0 + 1 ≤ 0 + 1) hR.1, Nat.le_trans (Nat.le_of_ble_eq_true rfl : 8 + (mX0_kind.2.2.1 + 11) + 37 * 0 ≤ 36 + 37 * 0) hR.2⟩ hf hd kk
  · have hx := tw (fw (hx) (by rw [hk]; decide)) hk
    obtain rfl := hx
    exact c_virtU_i (ci := 2) (x0 := yX0_kind) mi_X2_kind (by rw [hown]; exact kw_495) kw_498 kw_496 kw_499 kw_500 kw_514 ⟨by decide, by decide, by decide +kernel⟩ rfl (by decide) hI (ok_X2_kind hL hc) rfl hstk hcat ⟨Nat.le_trans (Nat.le_of_ble_eq_true rfl : 0 + 1 ≤ 0 + 1) hR.1, Nat.le_trans (Nat.le_of_ble_eq_true rfl : 8 + (mX2_kind.2.2.1 + 11) + 37 * 0 ≤ 36 + 37 * 0) hR.2⟩ hf hd kk
  · have hx := tw (fw (fw (hx) (by rw [hk]; decide)) (by rw [hk]; decide)) hk
    obtain rfl := hx
    exact c_virtU_i (ci := 4) (x0 := yX0_kind) mi_X4_kind (by rw [hown]; exact kw_495) kw_498 kw_496 kw_502 kw_503 kw_514 ⟨by decide, by decide, by decide +kernel⟩ rfl (by decide) hI (ok_X4_kind hL hc) rfl hstk hcat ⟨Nat.le_trans (Nat.le_of_ble_eq_true rfl : 0 + 1 ≤ 0 + 1) hR.1, Nat.le_trans (Nat.le_of_ble_eq_true rfl : 8 + (mX4_kind.2.2.1 + 11) + 37 * 0 ≤ 36 + 37 * 0) hR.2⟩ hf hd kk
  · have hx := tw (fw (fw (fw (hx) (by rw [hk]; decide)) (by rw [hk]; decide)) (by rw [hk]; decide)) hk
    obtain rfl := hx
    exact c_virtU_i (ci := 5) (x0 := yX0_kind) mi_X5_kind (by rw [hown]; exact kw_495) kw_498 kw_496 kw_505 kw_506 kw_514 ⟨by decide, by decide, by decide +kernel⟩ rfl (by decide) hI (ok_X5_kind hL hc hk) rfl hstk hcat ⟨Nat.le_trans (Nat.le_of_ble_eq_true rfl : 0 + 1 ≤ 0 + 1) hR.1, Nat.le_trans (Nat.le_of_ble_eq_true rfl : 8 + (mX5_kind.2.2.1 + 11) + 37 * 0 ≤ 36 + 37 * 0) hR.2⟩ hf hd kk
  · have hx := tw (fw (fw (fw (fw (hx) (by rw [hk]; decide)) (by rw [hk]; decide)) (by rw [hk]; decide)) (by rw [hk]; decide)) hk
    obtain rfl := hx
    exact c_virtU_i (ci := 8) (x0 := yX0_kind) mi_X8_kind (by rw [hown]; exact kw_495) kw_498 kw_496 kw_508 kw_509 kw_514 ⟨by decide, by decide, by decide +kernel⟩ rfl (by decide) hI (ok_X8_kind hL hc) rfl hstk hcat ⟨Nat.le_trans (Nat.le_of_ble_eq_true rfl : 0 + 1 ≤ 0 + 1) hR.1, Nat.le_trans (Nat.le_of_ble_eq_true rfl : 8 + (mX8_kind.2.2.1 + 11) + 37 * 0 ≤ 36 + 37 * 0) hR.2⟩ hf hd kk
  · have hx := tw (fw (fw (fw (fw (fw (hx) (by rw [hk]; decide)) (by rw [hk]; decide)) (by rw [hk]; decide)) (by rw [hk]; decide)) (by rw [hk]; decide)) hk
    obtain rfl := hx
    exact c_virtU_i (ci := 9) (x0 := yX0_kind) mi_X9_kind (by rw [hown]; exact kw_495) kw_498 kw_496 kw_511 kw_512 kw_514 ⟨by decide, by decide, by decide +kernel⟩ rfl (by decide) hI (ok_X9_kind hL hc hk) rfl hstk hcat ⟨Nat.le_trans (Nat.le_of_ble_eq_true rfl : 0 + 1 ≤ 0 + 1) hR.1, Nat.le_trans (Nat.le_of_ble_eq_true rfl : 8 + (mX9_kind.2.2.1 + 11) + 37 * 0 ≤ 36 + 37 * 0) hR.2⟩ hf hd kk

def F_X11_cardOf (T : TM) (I : IM) (P : PM) (p1 : Int32) (p2 : Int32) : Option (Int32) := ((F_X10_cardAt I P 65 p1).bind (fun x1 => (osel x1 (some (-1)) (fun c2 => (if p2 = 0 then (if isF T c2 = true then (some (F_V_kind T c2)) else none) else (if p2 = 1 then (if isF T c2 = true then (some (I c2 1)) else none) else (if p2 = 2 then (if isF T c2 = true then (some (I c2 2)) else none) else (if p2 = 3 then (if isF T c2 = true then (some ((I c2 3) + 10)) else none) else (some (-1))))))))))
set_option maxHeartbeats 4000000 in
theorem ok_X11_cardOf {E : GE} {T : TM} {I : IM} {J : JM} {P : PM} {p1 : Int32} {p2 : Int32} {x : Int32} (hL : LOK T P) (hF : F_X11_cardOf T I P p1 p2 = some x) : Ctr E mX11_cardOf 1 0 0 [.ref 64, .int p1, .int p2] T I J P (some (.int x)) T I J P := by
  unfold F_X11_cardOf at hF
  refine ctr_intro rfl (by decide +kernel) (Nat.le_of_ble_eq_true rfl) ?_
  refine r_sub (ls' := [(2, .int p2), (1, .int p1), (0, .ref 64)]) [2, 1, 0] rfl ?_
  refine r_aload_n dX11_cardOf_0 rfl rfl ?_
  refine r_getP lk_X11_10 (ln_64 hL) (pp_64_0 hL) dX11_cardOf_1 ?_
  refine r_iload_n dX11_cardOf_4 rfl rfl ?_
  obtain ⟨x1, hx1, hF⟩ := bnd hF
  refine c_virt_q (As := [.int p1]) mi_X10_cardAt kw_492 kw_493 kw_491 rfl (by decide) (ln_65 hL) (ok_X10_cardAt hL (isw_65) hx1) rfl rfl (Nat.le_of_ble_eq_true rfl) ⟨Nat.le_of_ble_eq_true rfl, Nat.le_of_ble_eq_true rfl⟩ ⟨Nat.le_of_ble_eq_true rfl, Nat.le_of_ble_eq_true rfl⟩ dX11_cardOf_5 ?_
  rcases q11 : x1 with _ | c2
  · have hF := (osel_n q11).symm.trans hF
    (try rw [q11])
    show WW _ _ _ _ _ _ _ _ _ _ _ _ (.null :: _)
    refine r_astore_nN (ls' := [(3, .null), (2, .int p2), (1, .int p1), (0, .ref 64)]) dX11_cardOf_8 rfl (by decide) rfl ?_
    refine r_aload_nN dX11_cardOf_9 rfl rfl ?_
    refine r_ifnonnullN dX11_cardOf_10 ?_
    refine r_iconst (v := (-1)) dX11_cardOf_13 (by decide) ?_
    obtain rfl := Option.some.inj hF
    exact r_ireturn (x := (-1)) rfl rfl dX11_cardOf_14 (Nat.le_of_ble_eq_true rfl) (Nat.le_of_ble_eq_true rfl)
  · have hF := (osel_s q11).symm.trans hF
    (try rw [q11])
    show WW _ _ _ _ _ _ _ _ _ _ _ _ (.ref c2 :: _)
    refine r_astore_n (ls' := [(3, .ref c2), (2, .int p2), (1, .int p1), (0, .ref 64)]) dX11_cardOf_8 rfl (by decide) rfl ?_
    refine r_aload_n dX11_cardOf_9 rfl rfl ?_
    refine r_ifnonnull (tgt := 15) dX11_cardOf_10 (by decide) ?_
    refine r_iload_n dX11_cardOf_15 rfl rfl ?_
    by_cases h3 : p2 = 0
    · have hF := tw hF h3
      refine r_tableIn (off := 32) (tgt := 48) dX11_cardOf_16 (by rw [h3]; decide) (by rw [h3]; decide) (by rw [h3]; decide) (by decide) ?_
      refine r_aload_n dX11_cardOf_48 rfl rfl ?_
      obtain ⟨g4, hF⟩ := gd hF
      refine vs_X11_105 hL g4 (x := F_V_kind T c2) rfl rfl rfl (Nat.le_of_ble_eq_true rfl) ⟨Nat.le_of_ble_eq_true rfl, Nat.le_of_ble_eq_true rfl⟩ ⟨Nat.le_of_ble_eq_true rfl, Nat.le_of_ble_eq_true rfl⟩ dX11_cardOf_49 ?_
      obtain rfl := Option.some.inj hF
      exact r_ireturn (x := (F_V_kind T c2)) rfl rfl dX11_cardOf_52 (Nat.le_of_ble_eq_true rfl) (Nat.le_of_ble_eq_true rfl)
    · have hF := fw hF h3
      by_cases h5 : p2 = 1
      · have hF := tw hF h5
        refine r_tableIn (off := 37) (tgt := 53) dX11_cardOf_16 (by rw [h5]; decide) (by rw [h5]; decide) (by rw [h5]; decide) (by decide) ?_
        refine r_aload_n dX11_cardOf_53 rfl rfl ?_
        obtain ⟨g6, hF⟩ := gd hF
        refine r_getF lf_X11_111 g6 dX11_cardOf_54 ?_
        obtain rfl := Option.some.inj hF
        exact r_ireturn (x := (I c2 1)) rfl rfl dX11_cardOf_57 (Nat.le_of_ble_eq_true rfl) (Nat.le_of_ble_eq_true rfl)
      · have hF := fw hF h5
        by_cases h7 : p2 = 2
        · have hF := tw hF h7
          refine r_tableIn (off := 42) (tgt := 58) dX11_cardOf_16 (by rw [h7]; decide) (by rw [h7]; decide) (by rw [h7]; decide) (by decide) ?_
          refine r_aload_n dX11_cardOf_58 rfl rfl ?_
          obtain ⟨g8, hF⟩ := gd hF
          refine r_getF lf_X11_114 g8 dX11_cardOf_59 ?_
          obtain rfl := Option.some.inj hF
          exact r_ireturn (x := (I c2 2)) rfl rfl dX11_cardOf_62 (Nat.le_of_ble_eq_true rfl) (Nat.le_of_ble_eq_true rfl)
        · have hF := fw hF h7
          by_cases h9 : p2 = 3
          · have hF := tw hF h9
            refine r_tableIn (off := 47) (tgt := 63) dX11_cardOf_16 (by rw [h9]; decide) (by rw [h9]; decide) (by rw [h9]; decide) (by decide) ?_
            refine r_aload_n dX11_cardOf_63 rfl rfl ?_
            obtain ⟨g10, hF⟩ := gd hF
            refine r_getF lf_X11_117 g10 dX11_cardOf_64 ?_
            refine r_bipush (v := 10) dX11_cardOf_67 (by decide) ?_
            refine r_iadd dX11_cardOf_69 ?_
            obtain rfl := Option.some.inj hF
            exact r_ireturn (x := ((I c2 3) + 10)) rfl rfl dX11_cardOf_70 (Nat.le_of_ble_eq_true rfl) (Nat.le_of_ble_eq_true rfl)
          · have hF := fw hF h9
            have eh3 := nei 0 (by decide) h3
            have eh5 := nei 1 (by decide) h5
            have eh7 := nei 2 (by decide) h7
            have eh9 := nei 3 (by decide) h9
            refine r_tableOut (tgt := 71) dX11_cardOf_16 (by omega) (by decide) ?_
            refine r_iconst (v := (-1)) dX11_cardOf_71 (by decide) ?_
            obtain rfl := Option.some.inj hF
            exact r_ireturn (x := (-1)) rfl rfl dX11_cardOf_72 (Nat.le_of_ble_eq_true rfl) (Nat.le_of_ble_eq_true rfl)
def F_X11_set (I : IM) (p1 : Int32) (p2 : Int32) : Option (Int32 × IM) := (if p1 < 0 then (some ((-1), I)) else (if 6 ≤ p1 then (some ((-1), I)) else (if p2 < 0 then (some ((-1), I)) else (if p2 ≤ 63 then (letb (I 67 p1.toNatClampNeg) (fun y5 : Int32 => (letb (up2 I 67 p1.toNatClampNeg p2) (fun I6 : IM => (some (y5, I6)))))) else (some ((-1), I))))))
set_option maxHeartbeats 4000000 in
theorem ok_X11_set {E : GE} {T : TM} {I : IM} {J : JM} {P : PM} {p1 : Int32} {p2 : Int32} {x : Int32 × IM} (hL : LOK T P) (hF : F_X11_set I p1 p2 = some x) : Ctr E mX11_set 0 0 0 [.ref 64, .int p1, .int p2] T I J P (some (.int x.1)) T x.2 J P := by
  unfold F_X11_set at hF
  refine ctr_intro rfl (by decide +kernel) (Nat.le_of_ble_eq_true rfl) ?_
  refine r_sub (ls' := [(2, .int p2), (1, .int p1), (0, .ref 64)]) [2, 1, 0] rfl ?_
  refine r_iload_n dX11_set_0 rfl rfl ?_
  refine r_if_lt (tgt := 20) dX11_set_1 (by decide) (fun h1 => ?_) (fun h1 => ?_)
  · have hF := tw hF h1
    refine r_iconst (v := (-1)) dX11_set_20 (by decide) ?_
    obtain rfl := Option.some.inj hF
    exact r_ireturn (x := (-1)) rfl rfl dX11_set_21 (Nat.le_of_ble_eq_true rfl) (Nat.le_of_ble_eq_true rfl)
  · have hF := fw hF h1
    refine r_iload_n dX11_set_4 rfl rfl ?_
    refine r_bipush (v := 6) dX11_set_5 (by decide) ?_
    refine r_icmp_ge (tgt := 20) dX11_set_7 (by decide) (fun h2 => ?_) (fun h2 => ?_)
    · have hF := tw hF h2
      refine r_iconst (v := (-1)) dX11_set_20 (by decide) ?_
      obtain rfl := Option.some.inj hF
      exact r_ireturn (x := (-1)) rfl rfl dX11_set_21 (Nat.le_of_ble_eq_true rfl) (Nat.le_of_ble_eq_true rfl)
    · have hF := fw hF h2
      refine r_iload_n dX11_set_10 rfl rfl ?_
      refine r_if_lt (tgt := 20) dX11_set_11 (by decide) (fun h3 => ?_) (fun h3 => ?_)
      · have hF := tw hF h3
        refine r_iconst (v := (-1)) dX11_set_20 (by decide) ?_
        obtain rfl := Option.some.inj hF
        exact r_ireturn (x := (-1)) rfl rfl dX11_set_21 (Nat.le_of_ble_eq_true rfl) (Nat.le_of_ble_eq_true rfl)
      · have hF := fw hF h3
        refine r_iload_n dX11_set_14 rfl rfl ?_
        refine r_bipush (v := 63) dX11_set_15 (by decide) ?_
        refine r_icmp_le (tgt := 22) dX11_set_17 (by decide) (fun h4 => ?_) (fun h4 => ?_)
        · have hF := tw hF h4
          refine r_aload_n dX11_set_22 rfl rfl ?_
          refine r_getP lk_X11_10 (ln_64 hL) (pp_64_0 hL) dX11_set_23 ?_
          refine r_getP lk_X11_120 (ln_65 hL) (pp_65_2 hL) dX11_set_26 ?_
          refine r_iload_n dX11_set_29 rfl rfl ?_
          refine r_iald (ln_67 hL) (by rw [(nl_67 hL)]; exact inb_ge h1 h2 (by decide)) dX11_set_30 ?_
          refine r_letV hF (fun y5 hF => ?_)
          refine r_istore_n (ls' := [(3, .int y5), (2, .int p2), (1, .int p1), (0, .ref 64)]) dX11_set_31 rfl (by decide) rfl ?_
          refine r_aload_n dX11_set_32 rfl rfl ?_
          refine r_getP lk_X11_10 (ln_64 hL) (pp_64_0 hL) dX11_set_33 ?_
          refine r_getP lk_X11_120 (ln_65 hL) (pp_65_2 hL) dX11_set_36 ?_
          refine r_iload_n dX11_set_39 rfl rfl ?_
          refine r_iload_n dX11_set_40 rfl rfl ?_
          refine r_iast (ln_67 hL) (by rw [(nl_67 hL)]; exact inb_ge h1 h2 (by decide)) dX11_set_41 ?_
          refine r_letI hF (fun I6 hF => ?_)
          refine r_iload_n dX11_set_42 rfl rfl ?_
          obtain rfl := Option.some.inj hF
          exact r_ireturn (x := y5) rfl rfl dX11_set_43 (Nat.le_of_ble_eq_true rfl) (Nat.le_of_ble_eq_true rfl)
        · have hF := fw hF h4
          refine r_iconst (v := (-1)) dX11_set_20 (by decide) ?_
          obtain rfl := Option.some.inj hF
          exact r_ireturn (x := (-1)) rfl rfl dX11_set_21 (Nat.le_of_ble_eq_true rfl) (Nat.le_of_ble_eq_true rfl)
def G_X10_allWeights_4 (N : Nat) (I : IM) (w : Nat) : Nat → Int32 → Int32 → Option (Int32)
  | 0, _, _ => none
  | n + 1, u1, u2 => (if 5 ≤ u2 then (some u1) else (if inb u2 5 = true then (letb (u1 + (I (w + 3) u2.toNatClampNeg)) (fun y4 : Int32 => (G_X10_allWeights_4 N I w n y4 (u2 + 1)))) else none))
set_option maxHeartbeats 4000000 in
theorem okG_X10_allWeights_4 {E : GE} {T : TM} {I : IM} {J : JM} {P : PM} {w : Nat} {N : Nat} {x : Int32} (hL : LOK T P) (hw : isW w) : ∀ (n : Nat) (u1 : Int32) (u2 : Int32), G_X10_allWeights_4 N I w n u1 u2 = some x → WW E mX10_allWeights (RM 0 0 0) (ZM E 0 0 (some (.int x)) T I J P) 0 0 T I J P 4 [(0, .ref w), (1, .int u1), (2, .int u2)] [] := by
  intro n
  induction n with
  | zero =>
    intro u1 u2 hF
    cases hF
  | succ n ih =>
    intro u1 u2 hF
    rw [G_X10_allWeights_4] at hF
    refine r_iload_n dX10_allWeights_4 rfl rfl ?_
    refine r_iconst (v := 5) dX10_allWeights_5 (by decide) ?_
    refine r_icmp_ge (tgt := 24) dX10_allWeights_6 (by decide) (fun h2 => ?_) (fun h2 => ?_)
    · have hF := tw hF h2
      refine r_iload_n dX10_allWeights_24 rfl rfl ?_
      obtain rfl := Option.some.inj hF
      exact r_ireturn (x := u1) rfl rfl dX10_allWeights_25 (Nat.le_of_ble_eq_true rfl) (Nat.le_of_ble_eq_true rfl)
    · have hF := fw hF h2
      refine r_iload_n dX10_allWeights_9 rfl rfl ?_
      refine r_aload_n dX10_allWeights_10 rfl rfl ?_
      refine r_getP lk_X10_21 (wn_0 hL hw) (wp_3 hL hw) dX10_allWeights_11 ?_
      refine r_iload_n dX10_allWeights_14 rfl rfl ?_
      obtain ⟨g3, hF⟩ := gd hF
      refine r_iald (wn_3 hL hw) (by rw [(wl_3 hL hw)]; exact g3) dX10_allWeights_15 ?_
      refine r_iadd dX10_allWeights_16 ?_
      refine r_letV hF (fun y4 hF => ?_)
      refine r_istore_n (ls' := [(1, .int y4), (0, .ref w), (2, .int u2)]) dX10_allWeights_17 rfl (by decide) rfl ?_
      refine r_iinc (v := (u2 + 1)) (ls' := [(2, .int (u2 + 1)), (1, .int y4), (0, .ref w)]) dX10_allWeights_18 rfl rfl (by decide) rfl ?_
      refine r_goto (tgt := 4) dX10_allWeights_21 (by decide) ?_
      refine r_sub (ls' := [(0, .ref w), (1, .int y4), (2, .int (u2 + 1))]) [2, 1, 0] rfl ?_
      exact ih y4 (u2 + 1) hF
def F_X10_allWeights (N : Nat) (I : IM) (w : Nat) : Option (Int32) := (G_X10_allWeights_4 N I w N 0 0)
set_option maxHeartbeats 4000000 in
theorem ok_X10_allWeights {E : GE} {T : TM} {I : IM} {J : JM} {P : PM} {w : Nat} {N : Nat} {x : Int32} (hL : LOK T P) (hw : isW w) (hF : F_X10_allWeights N I w = some x) : Ctr E mX10_allWeights 0 0 0 [.ref w] T I J P (some (.int x)) T I J P := by
  unfold F_X10_allWeights at hF
  refine ctr_intro rfl (by decide +kernel) (Nat.le_of_ble_eq_true rfl) ?_
  refine r_sub (ls' := [(0, .ref w)]) [0] rfl ?_
  refine r_iconst (v := 0) dX10_allWeights_0 (by decide) ?_
  refine r_istore_n (ls' := [(1, .int 0), (0, .ref w)]) dX10_allWeights_1 rfl (by decide) rfl ?_
  refine r_iconst (v := 0) dX10_allWeights_2 (by decide) ?_
  refine r_istore_n (ls' := [(2, .int 0), (1, .int 0), (0, .ref w)]) dX10_allWeights_3 rfl (by decide) rfl ?_
  refine r_sub (ls' := [(0, .ref w), (1, .int 0), (2, .int 0)]) [2, 1, 0] rfl ?_
  exact okG_X10_allWeights_4 hL hw  N 0 0 hF
def F_X11_hand (N : Nat) (I : IM) (p1 : Int32) (p2 : Int32) : Option (Int32 × IM) := (if p1 < 0 then (some ((-1), I)) else (if 5 ≤ p1 then (some ((-1), I)) else (if p2 < 0 then (some ((-1), I)) else (if p2 ≤ 9 then (letb (I 68 p1.toNatClampNeg) (fun y5 : Int32 => ((F_X10_allWeights N I 65).bind (fun x6 => (if ((x6 - y5) + p2) = 0 then (some ((-4), I)) else (letb (up2 I 68 p1.toNatClampNeg p2) (fun I8 : IM => (some (y5, I8))))))))) else (some ((-1), I))))))
set_option maxHeartbeats 4000000 in
theorem ok_X11_hand {E : GE} {T : TM} {I : IM} {J : JM} {P : PM} {p1 : Int32} {p2 : Int32} {N : Nat} {x : Int32 × IM} (hL : LOK T P) (hF : F_X11_hand N I p1 p2 = some x) : Ctr E mX11_hand 1 0 0 [.ref 64, .int p1, .int p2] T I J P (some (.int x.1)) T x.2 J P := by
  unfold F_X11_hand at hF
  refine ctr_intro rfl (by decide +kernel) (Nat.le_of_ble_eq_true rfl) ?_
  refine r_sub (ls' := [(2, .int p2), (1, .int p1), (0, .ref 64)]) [2, 1, 0] rfl ?_
  refine r_iload_n dX11_hand_0 rfl rfl ?_
  refine r_if_lt (tgt := 19) dX11_hand_1 (by decide) (fun h1 => ?_) (fun h1 => ?_)
  · have hF := tw hF h1
    refine r_iconst (v := (-1)) dX11_hand_19 (by decide) ?_
    obtain rfl := Option.some.inj hF
    exact r_ireturn (x := (-1)) rfl rfl dX11_hand_20 (Nat.le_of_ble_eq_true rfl) (Nat.le_of_ble_eq_true rfl)
  · have hF := fw hF h1
    refine r_iload_n dX11_hand_4 rfl rfl ?_
    refine r_iconst (v := 5) dX11_hand_5 (by decide) ?_
    refine r_icmp_ge (tgt := 19) dX11_hand_6 (by decide) (fun h2 => ?_) (fun h2 => ?_)
    · have hF := tw hF h2
      refine r_iconst (v := (-1)) dX11_hand_19 (by decide) ?_
      obtain rfl := Option.some.inj hF
      exact r_ireturn (x := (-1)) rfl rfl dX11_hand_20 (Nat.le_of_ble_eq_true rfl) (Nat.le_of_ble_eq_true rfl)
    · have hF := fw hF h2
      refine r_iload_n dX11_hand_9 rfl rfl ?_
      refine r_if_lt (tgt := 19) dX11_hand_10 (by decide) (fun h3 => ?_) (fun h3 => ?_)
      · have hF := tw hF h3
        refine r_iconst (v := (-1)) dX11_hand_19 (by decide) ?_
        obtain rfl := Option.some.inj hF
        exact r_ireturn (x := (-1)) rfl rfl dX11_hand_20 (Nat.le_of_ble_eq_true rfl) (Nat.le_of_ble_eq_true rfl)
      · have hF := fw hF h3
        refine r_iload_n dX11_hand_13 rfl rfl ?_
        refine r_bipush (v := 9) dX11_hand_14 (by decide) ?_
        refine r_icmp_le (tgt := 21) dX11_hand_16 (by decide) (fun h4 => ?_) (fun h4 => ?_)
        · have hF := tw hF h4
          refine r_aload_n dX11_hand_21 rfl rfl ?_
          refine r_getP lk_X11_10 (ln_64 hL) (pp_64_0 hL) dX11_hand_22 ?_
          refine r_getP lk_X11_123 (ln_65 hL) (pp_65_3 hL) dX11_hand_25 ?_
          refine r_iload_n dX11_hand_28 rfl rfl ?_
          refine r_iald (ln_68 hL) (by rw [(nl_68 hL)]; exact inb_ge h1 h2 (by decide)) dX11_hand_29 ?_
          refine r_letV hF (fun y5 hF => ?_)
          refine r_istore_n (ls' := [(3, .int y5), (2, .int p2), (1, .int p1), (0, .ref 64)]) dX11_hand_30 rfl (by decide) rfl ?_
          refine r_aload_n dX11_hand_31 rfl rfl ?_
          refine r_getP lk_X11_10 (ln_64 hL) (pp_64_0 hL) dX11_hand_32 ?_
          obtain ⟨x6, hx6, hF⟩ := bnd hF
          refine c_virt_i (As := []) mi_X10_allWeights kw_524 kw_525 kw_523 rfl (by decide) (ln_65 hL) (ok_X10_allWeights hL (isw_65) hx6) rfl rfl (Nat.le_of_ble_eq_true rfl) ⟨Nat.le_of_ble_eq_true rfl, Nat.le_of_ble_eq_true rfl⟩ ⟨Nat.le_of_ble_eq_true rfl, Nat.le_of_ble_eq_true rfl⟩ dX11_hand_35 ?_
          refine r_iload_n dX11_hand_38 rfl rfl ?_
          refine r_isub dX11_hand_39 ?_
          refine r_iload_n dX11_hand_40 rfl rfl ?_
          refine r_iadd dX11_hand_41 ?_
          refine r_if_ne (tgt := 48) dX11_hand_42 (by decide) (fun h7 => ?_) (fun h7 => ?_)
          · have hF := fw hF h7
            refine r_aload_n dX11_hand_48 rfl rfl ?_
            refine r_getP lk_X11_10 (ln_64 hL) (pp_64_0 hL) dX11_hand_49 ?_
            refine r_getP lk_X11_123 (ln_65 hL) (pp_65_3 hL) dX11_hand_52 ?_
            refine r_iload_n dX11_hand_55 rfl rfl ?_
            refine r_iload_n dX11_hand_56 rfl rfl ?_
            refine r_iast (ln_68 hL) (by rw [(nl_68 hL)]; exact inb_ge h1 h2 (by decide)) dX11_hand_57 ?_
            refine r_letI hF (fun I8 hF => ?_)
            refine r_iload_n dX11_hand_58 rfl rfl ?_
            obtain rfl := Option.some.inj hF
            exact r_ireturn (x := y5) rfl rfl dX11_hand_59 (Nat.le_of_ble_eq_true rfl) (Nat.le_of_ble_eq_true rfl)
          · have hF := tw hF h7
            refine r_bipush (v := (-4)) dX11_hand_45 (by decide) ?_
            obtain rfl := Option.some.inj hF
            exact r_ireturn (x := (-4)) rfl rfl dX11_hand_47 (Nat.le_of_ble_eq_true rfl) (Nat.le_of_ble_eq_true rfl)
        · have hF := fw hF h4
          refine r_iconst (v := (-1)) dX11_hand_19 (by decide) ?_
          obtain rfl := Option.some.inj hF
          exact r_ireturn (x := (-1)) rfl rfl dX11_hand_20 (Nat.le_of_ble_eq_true rfl) (Nat.le_of_ble_eq_true rfl)
def F_X11_sineOf (p1 : Int32) : Option (Int32) := (if p1 < 0 then (some 0) else (if p1 < 36 then (letb (if 18 ≤ p1 then (p1 - 18) else p1) (fun y4 : Int32 => (letb (if 10 ≤ y4 then (18 - y4) else y4) (fun y6 : Int32 => (if inb y6 10 = true then (letb (sinV.getD y6.toNatClampNeg 0) (fun y8 : Int32 => (if 18 ≤ p1 then (some (-y8)) else (some y8)))) else none))))) else (some 0)))
set_option maxHeartbeats 4000000 in
theorem ok_X11_sineOf {E : GE} {T : TM} {I : IM} {J : JM} {P : PM} {p1 : Int32} {x : Int32} (hL : LOK T P) (hF : F_X11_sineOf p1 = some x) : Ctr E mX11_sineOf 0 0 0 [.int p1] T I J P (some (.int x)) T I J P := by
  unfold F_X11_sineOf at hF
  refine ctr_intro rfl (by decide +kernel) (Nat.le_of_ble_eq_true rfl) ?_
  refine r_sub (ls' := [(0, .int p1)]) [0] rfl ?_
  refine r_iload_n dX11_sineOf_0 rfl rfl ?_
  refine r_if_lt (tgt := 10) dX11_sineOf_1 (by decide) (fun h1 => ?_) (fun h1 => ?_)
  · have hF := tw hF h1
    refine r_iconst (v := 0) dX11_sineOf_10 (by decide) ?_
    obtain rfl := Option.some.inj hF
    exact r_ireturn (x := 0) rfl rfl dX11_sineOf_11 (Nat.le_of_ble_eq_true rfl) (Nat.le_of_ble_eq_true rfl)
  · have hF := fw hF h1
    refine r_iload_n dX11_sineOf_4 rfl rfl ?_
    refine r_bipush (v := 36) dX11_sineOf_5 (by decide) ?_
    refine r_icmp_lt (tgt := 12) dX11_sineOf_7 (by decide) (fun h2 => ?_) (fun h2 => ?_)
    · have hF := tw hF h2
      refine r_iload_n dX11_sineOf_12 rfl rfl ?_
      refine r_bipush (v := 18) dX11_sineOf_13 (by decide) ?_
      refine r_join (G1 := fun y4 : Int32 => WW E mX11_sineOf (RM 0 0 0) (ZM E 0 0 (some (.int x)) T I J P) 0 0 T I J P 26 [(0, .int p1)] [.int y4]) hF (fun y4 hF => ?_) (fun y4 hv hJ => ?_)
      · refine r_istore_n (ls' := [(1, .int y4), (0, .int p1)]) dX11_sineOf_26 rfl (by decide) rfl ?_
        refine r_sines (ref := "") kw_534 dX11_sineOf_27 ?_
        refine r_iload_n dX11_sineOf_30 rfl rfl ?_
        refine r_bipush (v := 10) dX11_sineOf_31 (by decide) ?_
        refine r_join (G1 := fun y6 : Int32 => WW E mX11_sineOf (RM 0 0 0) (ZM E 0 0 (some (.int x)) T I J P) 0 0 T I J P 44 [(1, .int y4), (0, .int p1)] [.int y6, .ref 20]) hF (fun y6 hF => ?_) (fun y6 hv hJ => ?_)
        · obtain ⟨g7, hF⟩ := gd hF
          refine r_sinld g7 dX11_sineOf_44 ?_
          refine r_letV hF (fun y8 hF => ?_)
          refine r_istore_n (ls' := [(2, .int y8), (1, .int y4), (0, .int p1)]) dX11_sineOf_45 rfl (by decide) rfl ?_
          refine r_iload_n dX11_sineOf_46 rfl rfl ?_
          refine r_bipush (v := 18) dX11_sineOf_47 (by decide) ?_
          refine r_icmp_ge (tgt := 56) dX11_sineOf_49 (by decide) (fun h9 => ?_) (fun h9 => ?_)
          · have hF := tw hF h9
            refine r_iload_n dX11_sineOf_56 rfl rfl ?_
            refine r_ineg dX11_sineOf_57 ?_
            obtain rfl := Option.some.inj hF
            exact r_ireturn (x := (-y8)) rfl rfl dX11_sineOf_58 (Nat.le_of_ble_eq_true rfl) (Nat.le_of_ble_eq_true rfl)
          · have hF := fw hF h9
            refine r_iload_n dX11_sineOf_52 rfl rfl ?_
            refine r_goto (tgt := 58) dX11_sineOf_53 (by decide) ?_
            obtain rfl := Option.some.inj hF
            exact r_ireturn (x := y8) rfl rfl dX11_sineOf_58 (Nat.le_of_ble_eq_true rfl) (Nat.le_of_ble_eq_true rfl)
        · refine r_icmp_ge (tgt := 40) dX11_sineOf_33 (by decide) (fun h5 => ?_) (fun h5 => ?_)
          · have hv := tw hv h5
            refine r_bipush (v := 18) dX11_sineOf_40 (by decide) ?_
            refine r_iload_n dX11_sineOf_42 rfl rfl ?_
            refine r_isub dX11_sineOf_43 ?_
            obtain rfl := hv
            exact hJ
          · have hv := fw hv h5
            refine r_iload_n dX11_sineOf_36 rfl rfl ?_
            refine r_goto (tgt := 44) dX11_sineOf_37 (by decide) ?_
            obtain rfl := hv
            exact hJ
      · refine r_icmp_ge (tgt := 22) dX11_sineOf_15 (by decide) (fun h3 => ?_) (fun h3 => ?_)
        · have hv := tw hv h3
          refine r_iload_n dX11_sineOf_22 rfl rfl ?_
          refine r_bipush (v := 18) dX11_sineOf_23 (by decide) ?_
          refine r_isub dX11_sineOf_25 ?_
          obtain rfl := hv
          exact hJ
        · have hv := fw hv h3
          refine r_iload_n dX11_sineOf_18 rfl rfl ?_
          refine r_goto (tgt := 26) dX11_sineOf_19 (by decide) ?_
          obtain rfl := hv
          exact hJ
    · have hF := fw hF h2
      refine r_iconst (v := 0) dX11_sineOf_10 (by decide) ?_
      obtain rfl := Option.some.inj hF
      exact r_ireturn (x := 0) rfl rfl dX11_sineOf_11 (Nat.le_of_ble_eq_true rfl) (Nat.le_of_ble_eq_true rfl)
def F_X11_sine (p1 : Int32) : Option (Int32) := (if p1 < 0 then (some (-1)) else (if p1 < 36 then ((F_X11_sineOf p1).bind (fun x3 => (some (x3 + 1000)))) else (some (-1))))
set_option maxHeartbeats 4000000 in
theorem ok_X11_sine {E : GE} {T : TM} {I : IM} {J : JM} {P : PM} {p1 : Int32} {x : Int32} (hL : LOK T P) (hF : F_X11_sine p1 = some x) : Ctr E mX11_sine 1 0 0 [.ref 64, .int p1] T I J P (some (.int x)) T I J P := by
  unfold F_X11_sine at hF
  refine ctr_intro rfl (by decide +kernel) (Nat.le_of_ble_eq_true rfl) ?_
  refine r_sub (ls' := [(1, .int p1), (0, .ref 64)]) [1, 0] rfl ?_
  refine r_iload_n dX11_sine_0 rfl rfl ?_
  refine r_if_lt (tgt := 10) dX11_sine_1 (by decide) (fun h1 => ?_) (fun h1 => ?_)
  · have hF := tw hF h1
    refine r_iconst (v := (-1)) dX11_sine_10 (by decide) ?_
    refine r_goto (tgt := 22) dX11_sine_11 (by decide) ?_
    obtain rfl := Option.some.inj hF
    exact r_ireturn (x := (-1)) rfl rfl dX11_sine_22 (Nat.le_of_ble_eq_true rfl) (Nat.le_of_ble_eq_true rfl)
  · have hF := fw hF h1
    refine r_iload_n dX11_sine_4 rfl rfl ?_
    refine r_bipush (v := 36) dX11_sine_5 (by decide) ?_
    refine r_icmp_lt (tgt := 14) dX11_sine_7 (by decide) (fun h2 => ?_) (fun h2 => ?_)
    · have hF := tw hF h2
      refine r_iload_n dX11_sine_14 rfl rfl ?_
      obtain ⟨x3, hx3, hF⟩ := bnd hF
      refine c_static_i (As := [.int p1]) mi_X11_sineOf kw_532 kw_531 (ok_X11_sineOf hL  hx3) rfl rfl (Nat.le_of_ble_eq_true rfl) ⟨Nat.le_of_ble_eq_true rfl, Nat.le_of_ble_eq_true rfl⟩ ⟨Nat.le_of_ble_eq_true rfl, Nat.le_of_ble_eq_true rfl⟩ dX11_sine_15 ?_
      refine r_sipush (v := 1000) dX11_sine_18 (by decide) ?_
      refine r_iadd dX11_sine_21 ?_
      obtain rfl := Option.some.inj hF
      exact r_ireturn (x := (x3 + 1000)) rfl rfl dX11_sine_22 (Nat.le_of_ble_eq_true rfl) (Nat.le_of_ble_eq_true rfl)
    · have hF := fw hF h2
      refine r_iconst (v := (-1)) dX11_sine_10 (by decide) ?_
      refine r_goto (tgt := 22) dX11_sine_11 (by decide) ?_
      obtain rfl := Option.some.inj hF
      exact r_ireturn (x := (-1)) rfl rfl dX11_sine_22 (Nat.le_of_ble_eq_true rfl) (Nat.le_of_ble_eq_true rfl)
def F_X11_isLettingGo (p1 : Int32) (p2 : Int32) (p3 : Int32) : Int32 := (if p1 < 1 then 0 else (if 9999 < p1 then 0 else (if p2 < 0 then 0 else (if 36 ≤ p2 then 0 else (if p3 < (-9) then 0 else (if 9 < p3 then 0 else 1))))))
set_option maxHeartbeats 4000000 in
theorem ok_X11_isLettingGo {E : GE} {T : TM} {I : IM} {J : JM} {P : PM} {p1 : Int32} {p2 : Int32} {p3 : Int32} (hL : LOK T P) : Ctr E mX11_isLettingGo 0 0 0 [.int p1, .int p2, .int p3] T I J P (some (.int (F_X11_isLettingGo p1 p2 p3))) T I J P := by
  generalize hF : F_X11_isLettingGo p1 p2 p3 = r
  unfold F_X11_isLettingGo at hF
  refine ctr_intro rfl (by decide +kernel) (Nat.le_of_ble_eq_true rfl) ?_
  refine r_sub (ls' := [(2, .int p3), (1, .int p2), (0, .int p1)]) [2, 1, 0] rfl ?_
  refine r_iload_n dX11_isLettingGo_0 rfl rfl ?_
  refine r_iconst (v := 1) dX11_isLettingGo_1 (by decide) ?_
  refine r_icmp_lt (tgt := 38) dX11_isLettingGo_2 (by decide) (fun h1 => ?_) (fun h1 => ?_)
  · have hF := tw hF h1
    refine r_iconst (v := 0) dX11_isLettingGo_38 (by decide) ?_
    obtain rfl := hF
    exact r_ireturn (x := 0) rfl rfl dX11_isLettingGo_39 (Nat.le_of_ble_eq_true rfl) (Nat.le_of_ble_eq_true rfl)
  · have hF := fw hF h1
    refine r_iload_n dX11_isLettingGo_5 rfl rfl ?_
    refine r_sipush (v := 9999) dX11_isLettingGo_6 (by decide) ?_
    refine r_icmp_gt (tgt := 38) dX11_isLettingGo_9 (by decide) (fun h2 => ?_) (fun h2 => ?_)
    · have hF := tw hF h2
      refine r_iconst (v := 0) dX11_isLettingGo_38 (by decide) ?_
      obtain rfl := hF
      exact r_ireturn (x := 0) rfl rfl dX11_isLettingGo_39 (Nat.le_of_ble_eq_true rfl) (Nat.le_of_ble_eq_true rfl)
    · have hF := fw hF h2
      refine r_iload_n dX11_isLettingGo_12 rfl rfl ?_
      refine r_if_lt (tgt := 38) dX11_isLettingGo_13 (by decide) (fun h3 => ?_) (fun h3 => ?_)
      · have hF := tw hF h3
        refine r_iconst (v := 0) dX11_isLettingGo_38 (by decide) ?_
        obtain rfl := hF
        exact r_ireturn (x := 0) rfl rfl dX11_isLettingGo_39 (Nat.le_of_ble_eq_true rfl) (Nat.le_of_ble_eq_true rfl)
      · have hF := fw hF h3
        refine r_iload_n dX11_isLettingGo_16 rfl rfl ?_
        refine r_bipush (v := 36) dX11_isLettingGo_17 (by decide) ?_
        refine r_icmp_ge (tgt := 38) dX11_isLettingGo_19 (by decide) (fun h4 => ?_) (fun h4 => ?_)
        · have hF := tw hF h4
          refine r_iconst (v := 0) dX11_isLettingGo_38 (by decide) ?_
          obtain rfl := hF
          exact r_ireturn (x := 0) rfl rfl dX11_isLettingGo_39 (Nat.le_of_ble_eq_true rfl) (Nat.le_of_ble_eq_true rfl)
        · have hF := fw hF h4
          refine r_iload_n dX11_isLettingGo_22 rfl rfl ?_
          refine r_bipush (v := (-9)) dX11_isLettingGo_23 (by decide) ?_
          refine r_icmp_lt (tgt := 38) dX11_isLettingGo_25 (by decide) (fun h5 => ?_) (fun h5 => ?_)
          · have hF := tw hF h5
            refine r_iconst (v := 0) dX11_isLettingGo_38 (by decide) ?_
            obtain rfl := hF
            exact r_ireturn (x := 0) rfl rfl dX11_isLettingGo_39 (Nat.le_of_ble_eq_true rfl) (Nat.le_of_ble_eq_true rfl)
          · have hF := fw hF h5
            refine r_iload_n dX11_isLettingGo_28 rfl rfl ?_
            refine r_bipush (v := 9) dX11_isLettingGo_29 (by decide) ?_
            refine r_icmp_gt (tgt := 38) dX11_isLettingGo_31 (by decide) (fun h6 => ?_) (fun h6 => ?_)
            · have hF := tw hF h6
              refine r_iconst (v := 0) dX11_isLettingGo_38 (by decide) ?_
              obtain rfl := hF
              exact r_ireturn (x := 0) rfl rfl dX11_isLettingGo_39 (Nat.le_of_ble_eq_true rfl) (Nat.le_of_ble_eq_true rfl)
            · have hF := fw hF h6
              refine r_iconst (v := 1) dX11_isLettingGo_34 (by decide) ?_
              refine r_goto (tgt := 39) dX11_isLettingGo_35 (by decide) ?_
              obtain rfl := hF
              exact r_ireturn (x := 1) rfl rfl dX11_isLettingGo_39 (Nat.le_of_ble_eq_true rfl) (Nat.le_of_ble_eq_true rfl)
theorem nz_X11_isLettingGo (p1 : Int32) (p2 : Int32) (p3 : Int32) : narrow .boolean (.int (F_X11_isLettingGo p1 p2 p3)) = .int (F_X11_isLettingGo p1 p2 p3) := by
  unfold F_X11_isLettingGo
  repeat' split
  all_goals first | rfl
def F_X1_start (T : TM) (I : IM) (P : PM) (a : Nat) (c1 : Nat) (p2 : Int32) (p3 : Int32) (p4 : Int32) : Option (IM × PM) := (letb (up2 P a 0 (some c1)) (fun P1 : PM => (letb (up2 I a 1 (I c1 1)) (fun I2 : IM => (letb (up2 I2 a 2 0) (fun I3 : IM => (letb (up2 I3 a 3 0) (fun I4 : IM => (letb (up2 I4 a 4 p2) (fun I5 : IM => (letb (up2 I5 a 5 p3) (fun I6 : IM => (letb (up2 I6 a 6 p4) (fun I7 : IM => (letb (up2 I7 a 7 0) (fun I8 : IM => (letb (up2 I8 a 8 0) (fun I9 : IM => (letb (up2 I9 a 9 0) (fun I10 : IM => (letb (up2 I10 a 10 0) (fun I11 : IM => (some (I11, P1))))))))))))))))))))))))
set_option maxHeartbeats 4000000 in
theorem ok_X1_start {E : GE} {T : TM} {I : IM} {J : JM} {P : PM} {a : Nat} {c1 : Nat} {p2 : Int32} {p3 : Int32} {p4 : Int32} {x : IM × PM} (hL : LOK T P) (ha : IS T a 1) (hc1 : isF T c1 = true) (hF : F_X1_start T I P a c1 p2 p3 p4 = some x) : CtrP E (LOK T x.2) mX1_start 0 0 0 [.ref a, .ref c1, .int p2, .int p3, .int p4] T I J P none T x.1 J x.2 := by
  unfold F_X1_start at hF
  refine ctrP_intro (by decide) (Nat.le_of_ble_eq_true rfl) ?_
  refine r_sub (ls' := [(4, .int p4), (3, .int p3), (2, .int p2), (1, .ref c1), (0, .ref a)]) [4, 3, 2, 1, 0] rfl ?_
  refine r_aload_n dX1_start_0 rfl rfl ?_
  refine r_aload_n dX1_start_1 rfl rfl ?_
  refine r_putP lk_X1_9 (Or.inl rfl) ha (fun _ => rfl) (fun _ => rfl) dX1_start_2 ?_
  refine r_letP hF (fun P1 eP1 hF => ?_)
  have hL : LOK T P1 := by rw [eP1]; exact hL.up ha (Or.inl rfl)
  refine r_aload_n dX1_start_5 rfl rfl ?_
  refine r_aload_n dX1_start_6 rfl rfl ?_
  refine r_ifnonnull (tgt := 14) dX1_start_7 (by decide) ?_
  refine r_aload_n dX1_start_14 rfl rfl ?_
  refine r_getF lf_X1_15 hc1 dX1_start_15 ?_
  refine r_putI lk_X1_21 (Or.inl rfl) ha rfl rfl dX1_start_18 ?_
  refine r_letI hF (fun I2 hF => ?_)
  refine r_aload_n dX1_start_21 rfl rfl ?_
  refine r_iconst (v := 0) dX1_start_22 (by decide) ?_
  refine r_putI lk_X1_22 (Or.inl rfl) ha rfl rfl dX1_start_23 ?_
  refine r_letI hF (fun I3 hF => ?_)
  refine r_aload_n dX1_start_26 rfl rfl ?_
  refine r_iconst (v := 0) dX1_start_27 (by decide) ?_
  refine r_putI lk_X1_25 (Or.inl rfl) ha rfl rfl dX1_start_28 ?_
  refine r_letI hF (fun I4 hF => ?_)
  refine r_aload_n dX1_start_31 rfl rfl ?_
  refine r_iload_n dX1_start_32 rfl rfl ?_
  refine r_putI lk_X1_28 (Or.inl rfl) ha rfl rfl dX1_start_33 ?_
  refine r_letI hF (fun I5 hF => ?_)
  refine r_aload_n dX1_start_36 rfl rfl ?_
  refine r_iload_n dX1_start_37 rfl rfl ?_
  refine r_putI lk_X1_31 (Or.inl rfl) ha rfl rfl dX1_start_38 ?_
  refine r_letI hF (fun I6 hF => ?_)
  refine r_aload_n dX1_start_41 rfl rfl ?_
  refine r_iload dX1_start_42 rfl ?_
  refine r_putI lk_X1_34 (Or.inl rfl) ha rfl rfl dX1_start_44 ?_
  refine r_letI hF (fun I7 hF => ?_)
  refine r_aload_n dX1_start_47 rfl rfl ?_
  refine r_iconst (v := 0) dX1_start_48 (by decide) ?_
  refine r_putI lk_X1_37 (Or.inl rfl) ha rfl rfl dX1_start_49 ?_
  refine r_letI hF (fun I8 hF => ?_)
  refine r_aload_n dX1_start_52 rfl rfl ?_
  refine r_iconst (v := 0) dX1_start_53 (by decide) ?_
  refine r_putI lk_X1_40 (Or.inl rfl) ha rfl rfl dX1_start_54 ?_
  refine r_letI hF (fun I9 hF => ?_)
  refine r_aload_n dX1_start_57 rfl rfl ?_
  refine r_iconst (v := 0) dX1_start_58 (by decide) ?_
  refine r_putI lk_X1_43 (Or.inl rfl) ha rfl rfl dX1_start_59 ?_
  refine r_letI hF (fun I10 hF => ?_)
  refine r_aload_n dX1_start_62 rfl rfl ?_
  refine r_iconst (v := 0) dX1_start_63 (by decide) ?_
  refine r_putI lk_X1_46 (Or.inl rfl) ha rfl rfl dX1_start_64 ?_
  refine r_letI hF (fun I11 hF => ?_)
  obtain rfl := Option.some.inj hF
  exact p_return rfl dX1_start_67 hL (Nat.le_of_ble_eq_true rfl) (Nat.le_of_ble_eq_true rfl)
def F_X11_begin (T : TM) (I : IM) (P : PM) (a1 : Nat) (p2 : Int32) (p3 : Int32) (p4 : Int32) (p5 : Int32) : Option (Int32 × IM × PM) := ((F_X10_cardAt I P 65 p2).bind (fun x1 => (osel x1 (some (0, I, P)) (fun c2 => (if (F_X11_isLettingGo p3 p4 p5) = 0 then (some (0, I, P)) else (if isF T c2 = true then ((F_X1_start T I P a1 c2 p3 p4 p5).bind (fun x5 => (some (1, x5.1, x5.2)))) else none))))))
set_option maxHeartbeats 4000000 in
theorem ok_X11_begin {E : GE} {T : TM} {I : IM} {J : JM} {P : PM} {a1 : Nat} {p2 : Int32} {p3 : Int32} {p4 : Int32} {p5 : Int32} {x : Int32 × IM × PM} (hL : LOK T P) (ha1 : IS T a1 1) (hF : F_X11_begin T I P a1 p2 p3 p4 p5 = some x) : CtrP E (LOK T x.2.2) mX11_begin 1 0 0 [.ref 64, .ref a1, .int p2, .int p3, .int p4, .int p5] T I J P (some (.int x.1)) T x.2.1 J x.2.2 := by
  unfold F_X11_begin at hF
  refine ctrP_intro (by decide) (Nat.le_of_ble_eq_true rfl) ?_
  refine r_sub (ls' := [(5, .int p5), (4, .int p4), (3, .int p3), (2, .int p2), (1, .ref a1), (0, .ref 64)]) [5, 4, 3, 2, 1, 0] rfl ?_
  refine r_aload_n dX11_begin_0 rfl rfl ?_
  refine r_getP lk_X11_10 (ln_64 hL) (pp_64_0 hL) dX11_begin_1 ?_
  refine r_iload_n dX11_begin_4 rfl rfl ?_
  obtain ⟨x1, hx1, hF⟩ := bnd hF
  refine c_virt_q (As := [.int p2]) mi_X10_cardAt kw_492 kw_493 kw_491 rfl (by decide) (ln_65 hL) (ok_X10_cardAt hL (isw_65) hx1) rfl rfl (Nat.le_of_ble_eq_true rfl) ⟨Nat.le_of_ble_eq_true rfl, Nat.le_of_ble_eq_true rfl⟩ ⟨Nat.le_of_ble_eq_true rfl, Nat.le_of_ble_eq_true rfl⟩ dX11_begin_5 ?_
  rcases q6 : x1 with _ | c2
  · have hF := (osel_n q6).symm.trans hF
    (try rw [q6])
    show WW _ _ _ _ _ _ _ _ _ _ _ _ (.null :: _)
    refine r_astoreN (ls' := [(6, .null), (5, .int p5), (4, .int p4), (3, .int p3), (2, .int p2), (1, .ref a1), (0, .ref 64)]) dX11_begin_8 (by decide) rfl ?_
    refine r_aloadN dX11_begin_10 rfl ?_
    refine r_ifnullN (tgt := 26) dX11_begin_12 (by decide) ?_
    refine r_iconst (v := 0) dX11_begin_26 (by decide) ?_
    obtain rfl := Option.some.inj hF
    exact p_ireturn (x := 0) rfl rfl dX11_begin_27 hL (Nat.le_of_ble_eq_true rfl) (Nat.le_of_ble_eq_true rfl)
  · have hF := (osel_s q6).symm.trans hF
    (try rw [q6])
    show WW _ _ _ _ _ _ _ _ _ _ _ _ (.ref c2 :: _)
    refine r_astore (ls' := [(6, .ref c2), (5, .int p5), (4, .int p4), (3, .int p3), (2, .int p2), (1, .ref a1), (0, .ref 64)]) dX11_begin_8 (by decide) rfl ?_
    refine r_aload dX11_begin_10 rfl ?_
    refine r_ifnull dX11_begin_12 ?_
    refine r_iload_n dX11_begin_15 rfl rfl ?_
    refine r_iload dX11_begin_16 rfl ?_
    refine r_iload dX11_begin_18 rfl ?_
    refine c_static_i (As := [.int p3, .int p4, .int p5]) mi_X11_isLettingGo kw_545 kw_544 (ok_X11_isLettingGo hL  (p1 := p3) (p2 := p4) (p3 := p5)) rfl rfl (Nat.le_of_ble_eq_true rfl) ⟨Nat.le_of_ble_eq_true rfl, Nat.le_of_ble_eq_true rfl⟩ ⟨Nat.le_of_ble_eq_true rfl, Nat.le_of_ble_eq_true rfl⟩ dX11_begin_20 ?_
    refine r_if_ne (tgt := 28) dX11_begin_23 (by decide) (fun h3 => ?_) (fun h3 => ?_)
    · have hF := fw hF h3
      refine r_aload_n dX11_begin_28 rfl rfl ?_
      refine r_aload dX11_begin_29 rfl ?_
      refine r_iload_n dX11_begin_31 rfl rfl ?_
      refine r_iload dX11_begin_32 rfl ?_
      refine r_iload dX11_begin_34 rfl ?_
      obtain ⟨g4, hF⟩ := gd hF
      obtain ⟨x5, hx5, hF⟩ := bnd hF
      refine cp_virt_v (As := [.ref c2, .int p3, .int p4, .int p5]) mi_X1_start kw_548 kw_549 kw_547 rfl (by decide) ha1 (ok_X1_start hL ha1 g4 hx5) rfl rfl (Nat.le_of_ble_eq_true rfl) ⟨Nat.le_of_ble_eq_true rfl, Nat.le_of_ble_eq_true rfl⟩ ⟨Nat.le_of_ble_eq_true rfl, Nat.le_of_ble_eq_true rfl⟩ dX11_begin_36 ?_
      intro hL
      refine r_iconst (v := 1) dX11_begin_39 (by decide) ?_
      obtain rfl := Option.some.inj hF
      exact p_ireturn (x := 1) rfl rfl dX11_begin_40 hL (Nat.le_of_ble_eq_true rfl) (Nat.le_of_ble_eq_true rfl)
    · have hF := tw hF h3
      refine r_iconst (v := 0) dX11_begin_26 (by decide) ?_
      obtain rfl := Option.some.inj hF
      exact p_ireturn (x := 0) rfl rfl dX11_begin_27 hL (Nat.le_of_ble_eq_true rfl) (Nat.le_of_ble_eq_true rfl)
def F_X11_letGo (T : TM) (I : IM) (P : PM) (p1 : Int32) (p2 : Int32) (p3 : Int32) (p4 : Int32) : Option (Int32 × IM × PM) := (osel (P 69 0) ((F_X11_begin T I P 69 p1 p2 p3 p4).bind (fun x3 => (if x3.1 = 0 then (some ((-1), x3.2.1, x3.2.2)) else (some ((-9), x3.2.1, x3.2.2))))) (fun c1 => (if isF T c1 = true then (letb (I c1 0) (fun y6 : Int32 => ((F_X11_begin T I P 69 p1 p2 p3 p4).bind (fun x7 => (if x7.1 = 0 then (some ((-1), x7.2.1, x7.2.2)) else (some (y6, x7.2.1, x7.2.2))))))) else none)))
set_option maxHeartbeats 4000000 in
theorem ok_X11_letGo {E : GE} {T : TM} {I : IM} {J : JM} {P : PM} {p1 : Int32} {p2 : Int32} {p3 : Int32} {p4 : Int32} {x : Int32 × IM × PM} (hL : LOK T P) (hF : F_X11_letGo T I P p1 p2 p3 p4 = some x) : CtrP E (LOK T x.2.2) mX11_letGo 2 0 0 [.ref 64, .int p1, .int p2, .int p3, .int p4] T I J P (some (.int x.1)) T x.2.1 J x.2.2 := by
  unfold F_X11_letGo at hF
  refine ctrP_intro (by decide) (Nat.le_of_ble_eq_true rfl) ?_
  refine r_sub (ls' := [(4, .int p4), (3, .int p3), (2, .int p2), (1, .int p1), (0, .ref 64)]) [4, 3, 2, 1, 0] rfl ?_
  refine r_aload_n dX11_letGo_0 rfl rfl ?_
  refine r_getP lk_X11_10 (ln_64 hL) (pp_64_0 hL) dX11_letGo_1 ?_
  refine r_getP lk_X11_133 (ln_65 hL) (pp_65_4 hL) dX11_letGo_4 ?_
  rcases q2 : (P 69 0) with _ | c1
  · have hF := (osel_n q2).symm.trans hF
    refine r_getN lk_X11_136 (ln_69 hL) q2 dX11_letGo_7 ?_
    refine r_ifnonnullN dX11_letGo_10 ?_
    refine r_bipush (v := (-9)) dX11_letGo_13 (by decide) ?_
    refine r_goto (tgt := 31) dX11_letGo_15 (by decide) ?_
    refine r_istore (ls' := [(5, .int (-9)), (4, .int p4), (3, .int p3), (2, .int p2), (1, .int p1), (0, .ref 64)]) dX11_letGo_31 (by decide) rfl ?_
    refine r_aload_n dX11_letGo_33 rfl rfl ?_
    refine r_aload_n dX11_letGo_34 rfl rfl ?_
    refine r_getP lk_X11_10 (ln_64 hL) (pp_64_0 hL) dX11_letGo_35 ?_
    refine r_getP lk_X11_133 (ln_65 hL) (pp_65_4 hL) dX11_letGo_38 ?_
    refine r_iload_n dX11_letGo_41 rfl rfl ?_
    refine r_iload_n dX11_letGo_42 rfl rfl ?_
    refine r_iload_n dX11_letGo_43 rfl rfl ?_
    refine r_iload dX11_letGo_44 rfl ?_
    obtain ⟨x3, hx3, hF⟩ := bnd hF
    refine cp_virt_i (As := [.ref 69, .int p1, .int p2, .int p3, .int p4]) mi_X11_begin kw_542 ks_13 kw_540 rfl (by decide) (ln_64 hL) (ok_X11_begin hL (ln_69 hL) hx3) rfl rfl (Nat.le_of_ble_eq_true rfl) ⟨Nat.le_of_ble_eq_true rfl, Nat.le_of_ble_eq_true rfl⟩ ⟨Nat.le_of_ble_eq_true rfl, Nat.le_of_ble_eq_true rfl⟩ dX11_letGo_46 ?_
    intro hL
    refine r_if_eq (tgt := 57) dX11_letGo_49 (by decide) (fun h4 => ?_) (fun h4 => ?_)
    · have hF := tw hF h4
      refine r_iconst (v := (-1)) dX11_letGo_57 (by decide) ?_
      obtain rfl := Option.some.inj hF
      exact p_ireturn (x := (-1)) rfl rfl dX11_letGo_58 hL (Nat.le_of_ble_eq_true rfl) (Nat.le_of_ble_eq_true rfl)
    · have hF := fw hF h4
      refine r_iload dX11_letGo_52 rfl ?_
      refine r_goto (tgt := 58) dX11_letGo_54 (by decide) ?_
      obtain rfl := Option.some.inj hF
      exact p_ireturn (x := (-9)) rfl rfl dX11_letGo_58 hL (Nat.le_of_ble_eq_true rfl) (Nat.le_of_ble_eq_true rfl)
  · have hF := (osel_s q2).symm.trans hF
    refine r_getP lk_X11_136 (ln_69 hL) q2 dX11_letGo_7 ?_
    refine r_ifnonnull (tgt := 18) dX11_letGo_10 (by decide) ?_
    refine r_aload_n dX11_letGo_18 rfl rfl ?_
    refine r_getP lk_X11_10 (ln_64 hL) (pp_64_0 hL) dX11_letGo_19 ?_
    refine r_getP lk_X11_133 (ln_65 hL) (pp_65_4 hL) dX11_letGo_22 ?_
    refine r_getP lk_X11_136 (ln_69 hL) q2 dX11_letGo_25 ?_
    obtain ⟨g5, hF⟩ := gd hF
    refine r_getF lf_X11_140 g5 dX11_letGo_28 ?_
    refine r_letV hF (fun y6 hF => ?_)
    refine r_istore (ls' := [(5, .int y6), (4, .int p4), (3, .int p3), (2, .int p2), (1, .int p1), (0, .ref 64)]) dX11_letGo_31 (by decide) rfl ?_
    refine r_aload_n dX11_letGo_33 rfl rfl ?_
    refine r_aload_n dX11_letGo_34 rfl rfl ?_
    refine r_getP lk_X11_10 (ln_64 hL) (pp_64_0 hL) dX11_letGo_35 ?_
    refine r_getP lk_X11_133 (ln_65 hL) (pp_65_4 hL) dX11_letGo_38 ?_
    refine r_iload_n dX11_letGo_41 rfl rfl ?_
    refine r_iload_n dX11_letGo_42 rfl rfl ?_
    refine r_iload_n dX11_letGo_43 rfl rfl ?_
    refine r_iload dX11_letGo_44 rfl ?_
    obtain ⟨x7, hx7, hF⟩ := bnd hF
    refine cp_virt_i (As := [.ref 69, .int p1, .int p2, .int p3, .int p4]) mi_X11_begin kw_542 ks_13 kw_540 rfl (by decide) (ln_64 hL) (ok_X11_begin hL (ln_69 hL) hx7) rfl rfl (Nat.le_of_ble_eq_true rfl) ⟨Nat.le_of_ble_eq_true rfl, Nat.le_of_ble_eq_true rfl⟩ ⟨Nat.le_of_ble_eq_true rfl, Nat.le_of_ble_eq_true rfl⟩ dX11_letGo_46 ?_
    intro hL
    refine r_if_eq (tgt := 57) dX11_letGo_49 (by decide) (fun h8 => ?_) (fun h8 => ?_)
    · have hF := tw hF h8
      refine r_iconst (v := (-1)) dX11_letGo_57 (by decide) ?_
      obtain rfl := Option.some.inj hF
      exact p_ireturn (x := (-1)) rfl rfl dX11_letGo_58 hL (Nat.le_of_ble_eq_true rfl) (Nat.le_of_ble_eq_true rfl)
    · have hF := fw hF h8
      refine r_iload dX11_letGo_52 rfl ?_
      refine r_goto (tgt := 58) dX11_letGo_54 (by decide) ?_
      obtain rfl := Option.some.inj hF
      exact p_ireturn (x := y6) rfl rfl dX11_letGo_58 hL (Nat.le_of_ble_eq_true rfl) (Nat.le_of_ble_eq_true rfl)
def F_X1_landed (I : IM) (a : Nat) : Int32 := (if 0 < (I a 4) then 0 else 1)
set_option maxHeartbeats 4000000 in
theorem ok_X1_landed {E : GE} {T : TM} {I : IM} {J : JM} {P : PM} {a : Nat} (hL : LOK T P) (ha : IS T a 1) : Ctr E mX1_landed 0 0 0 [.ref a] T I J P (some (.int (F_X1_landed I a))) T I J P := by
  generalize hF : F_X1_landed I a = r
  unfold F_X1_landed at hF
  refine ctr_intro rfl (by decide +kernel) (Nat.le_of_ble_eq_true rfl) ?_
  refine r_sub (ls' := [(0, .ref a)]) [0] rfl ?_
  refine r_aload_n dX1_landed_0 rfl rfl ?_
  refine r_getI lk_X1_28 ha dX1_landed_1 ?_
  refine r_if_gt (tgt := 11) dX1_landed_4 (by decide) (fun h1 => ?_) (fun h1 => ?_)
  · have hF := tw hF h1
    refine r_iconst (v := 0) dX1_landed_11 (by decide) ?_
    obtain rfl := hF
    exact r_ireturn (x := 0) rfl rfl dX1_landed_12 (Nat.le_of_ble_eq_true rfl) (Nat.le_of_ble_eq_true rfl)
  · have hF := fw hF h1
    refine r_iconst (v := 1) dX1_landed_7 (by decide) ?_
    refine r_goto (tgt := 12) dX1_landed_8 (by decide) ?_
    obtain rfl := hF
    exact r_ireturn (x := 1) rfl rfl dX1_landed_12 (Nat.le_of_ble_eq_true rfl) (Nat.le_of_ble_eq_true rfl)
theorem nz_X1_landed (I : IM) (a : Nat) : narrow .boolean (.int (F_X1_landed I a)) = .int (F_X1_landed I a) := by
  unfold F_X1_landed
  repeat' split
  all_goals first | rfl
def F_X11_heldTo (p1 : Int32) (p2 : Int32) : Int32 := (if (-p2) < (if p1 < p2 then p1 else p2) then (if p1 < p2 then p1 else p2) else (-p2))
set_option maxHeartbeats 4000000 in
theorem ok_X11_heldTo {E : GE} {T : TM} {I : IM} {J : JM} {P : PM} {p1 : Int32} {p2 : Int32} (hL : LOK T P) : Ctr E mX11_heldTo 1 0 0 [.int p1, .int p2] T I J P (some (.int (F_X11_heldTo p1 p2))) T I J P := by
  generalize hF : F_X11_heldTo p1 p2 = r
  unfold F_X11_heldTo at hF
  refine ctr_intro rfl (by decide +kernel) (Nat.le_of_ble_eq_true rfl) ?_
  refine r_sub (ls' := [(1, .int p2), (0, .int p1)]) [1, 0] rfl ?_
  refine r_iload_n dX11_heldTo_0 rfl rfl ?_
  refine r_ineg dX11_heldTo_1 ?_
  refine r_iload_n dX11_heldTo_2 rfl rfl ?_
  refine r_iload_n dX11_heldTo_3 rfl rfl ?_
  refine r_min kw_570 kw_347 kw_13 kw_348 ⟨Nat.le_of_ble_eq_true rfl, Nat.le_of_ble_eq_true rfl, Nat.le_of_ble_eq_true rfl, Nat.le_of_ble_eq_true rfl⟩ dX11_heldTo_4 ?_
  refine r_max kw_571 kw_572 kw_13 kw_573 ⟨Nat.le_of_ble_eq_true rfl, Nat.le_of_ble_eq_true rfl, Nat.le_of_ble_eq_true rfl, Nat.le_of_ble_eq_true rfl⟩ dX11_heldTo_7 ?_
  obtain rfl := hF
  exact r_ireturn (x := (if (-p2) < (if p1 < p2 then p1 else p2) then (if p1 < p2 then p1 else p2) else (-p2))) rfl rfl dX11_heldTo_10 (Nat.le_of_ble_eq_true rfl) (Nat.le_of_ble_eq_true rfl)
def F_X0_downTold (T : TM) (c : Nat) (p1 : Int32) : Int32 := p1
set_option maxHeartbeats 4000000 in
theorem ok_X0_downTold {E : GE} {T : TM} {I : IM} {J : JM} {P : PM} {c : Nat} {p1 : Int32} (hL : LOK T P) (hc : isF T c = true) : Ctr E mX0_downTold 0 0 0 [.ref c, .int p1] T I J P (some (.int (F_X0_downTold T c p1))) T I J P := by
  generalize hF : F_X0_downTold T c p1 = r
  unfold F_X0_downTold at hF
  refine ctr_intro rfl (by decide +kernel) (Nat.le_of_ble_eq_true rfl) ?_
  refine r_sub (ls' := [(1, .int p1), (0, .ref c)]) [1, 0] rfl ?_
  refine r_iload_n dX0_downTold_0 rfl rfl ?_
  obtain rfl := hF
  exact r_ireturn (x := p1) rfl rfl dX0_downTold_1 (Nat.le_of_ble_eq_true rfl) (Nat.le_of_ble_eq_true rfl)
def F_X9_downTold (T : TM) (c : Nat) (p1 : Int32) : Int32 := (p1 / 2)
set_option maxHeartbeats 4000000 in
theorem ok_X9_downTold {E : GE} {T : TM} {I : IM} {J : JM} {P : PM} {c : Nat} {p1 : Int32} (hL : LOK T P) (hc : isF T c = true) (hk : T.2.1 c = 9) : Ctr E mX9_downTold 0 0 0 [.ref c, .int p1] T I J P (some (.int (F_X9_downTold T c p1))) T I J P := by
  generalize hF : F_X9_downTold T c p1 = r
  unfold F_X9_downTold at hF
  refine ctr_intro rfl (by decide +kernel) (Nat.le_of_ble_eq_true rfl) ?_
  refine r_sub (ls' := [(1, .int p1), (0, .ref c)]) [1, 0] rfl ?_
  refine r_iload_n dX9_downTold_0 rfl rfl ?_
  refine r_iconst (v := 2) dX9_downTold_1 (by decide) ?_
  refine r_idiv dX9_downTold_2 (by decide) ?_
  obtain rfl := hF
  exact r_ireturn (x := (p1 / 2)) rfl rfl dX9_downTold_3 (Nat.le_of_ble_eq_true rfl) (Nat.le_of_ble_eq_true rfl)
def F_X0_turnTold (T : TM) (I : IM) (c : Nat) (a1 : Nat) (p2 : Int32) (b3 : Nat) : Option (Int32) := (if (I c 2) ≤ 0 then (some ((((I a1 6) + (((((I a1 7) * p2) / 1000) * (I b3 3)) / 1024)) - (((I a1 6) * (I b3 4)) / 64)) + 0)) else (if ¬ (I c 2) = 0 then (letb ((I c 3) / (I c 2)) (fun y4 : Int32 => (some ((((I a1 6) + (((((I a1 7) * p2) / 1000) * (I b3 3)) / 1024)) - (((I a1 6) * (I b3 4)) / 64)) + y4)))) else none))
set_option maxHeartbeats 4000000 in
theorem ok_X0_turnTold {E : GE} {T : TM} {I : IM} {J : JM} {P : PM} {c : Nat} {a1 : Nat} {p2 : Int32} {b3 : Nat} {x : Int32} (hL : LOK T P) (hc : isF T c = true) (ha1 : IS T a1 1) (hb3 : IS T b3 13) (nb3 : T.2.2 b3 = 6) (hF : F_X0_turnTold T I c a1 p2 b3 = some x) : Ctr E mX0_turnTold 0 0 0 [.ref c, .ref a1, .int p2, .ref b3] T I J P (some (.int x)) T I J P := by
  unfold F_X0_turnTold at hF
  refine ctr_intro rfl (by decide +kernel) (Nat.le_of_ble_eq_true rfl) ?_
  refine r_sub (ls' := [(3, .ref b3), (2, .int p2), (1, .ref a1), (0, .ref c)]) [3, 2, 1, 0] rfl ?_
  refine r_aload_n dX0_turnTold_0 rfl rfl ?_
  refine r_getF lf_X0_18 hc dX0_turnTold_1 ?_
  refine r_if_le (tgt := 19) dX0_turnTold_4 (by decide) (fun h2 => ?_) (fun h2 => ?_)
  · have hF := tw hF h2
    refine r_iconst (v := 0) dX0_turnTold_19 (by decide) ?_
    refine r_istore (ls' := [(4, .int 0), (3, .ref b3), (2, .int p2), (1, .ref a1), (0, .ref c)]) dX0_turnTold_20 (by decide) rfl ?_
    refine r_aload_n dX0_turnTold_22 rfl rfl ?_
    refine r_getI lk_X0_24 ha1 dX0_turnTold_23 ?_
    refine r_aload_n dX0_turnTold_26 rfl rfl ?_
    refine r_getI lk_X0_29 ha1 dX0_turnTold_27 ?_
    refine r_iload_n dX0_turnTold_30 rfl rfl ?_
    refine r_imul dX0_turnTold_31 ?_
    refine r_sipush (v := 1000) dX0_turnTold_32 (by decide) ?_
    refine r_idiv dX0_turnTold_35 (by decide) ?_
    refine r_aload_n dX0_turnTold_36 rfl rfl ?_
    refine r_iconst (v := 3) dX0_turnTold_37 (by decide) ?_
    refine r_iald hb3 (by rw [nb3]; decide) dX0_turnTold_38 ?_
    refine r_imul dX0_turnTold_39 ?_
    refine r_sipush (v := 1024) dX0_turnTold_40 (by decide) ?_
    refine r_idiv dX0_turnTold_43 (by decide) ?_
    refine r_iadd dX0_turnTold_44 ?_
    refine r_aload_n dX0_turnTold_45 rfl rfl ?_
    refine r_getI lk_X0_24 ha1 dX0_turnTold_46 ?_
    refine r_aload_n dX0_turnTold_49 rfl rfl ?_
    refine r_iconst (v := 4) dX0_turnTold_50 (by decide) ?_
    refine r_iald hb3 (by rw [nb3]; decide) dX0_turnTold_51 ?_
    refine r_imul dX0_turnTold_52 ?_
    refine r_bipush (v := 64) dX0_turnTold_53 (by decide) ?_
    refine r_idiv dX0_turnTold_55 (by decide) ?_
    refine r_isub dX0_turnTold_56 ?_
    refine r_iload dX0_turnTold_57 rfl ?_
    refine r_iadd dX0_turnTold_59 ?_
    obtain rfl := Option.some.inj hF
    exact r_ireturn (x := ((((I a1 6) + (((((I a1 7) * p2) / 1000) * (I b3 3)) / 1024)) - (((I a1 6) * (I b3 4)) / 64)) + 0)) rfl rfl dX0_turnTold_60 (Nat.le_of_ble_eq_true rfl) (Nat.le_of_ble_eq_true rfl)
  · have hF := fw hF h2
    refine r_aload_n dX0_turnTold_7 rfl rfl ?_
    refine r_getF lf_X0_21 hc dX0_turnTold_8 ?_
    refine r_aload_n dX0_turnTold_11 rfl rfl ?_
    refine r_getF lf_X0_18 hc dX0_turnTold_12 ?_
    obtain ⟨g3, hF⟩ := gd hF
    refine r_idiv dX0_turnTold_15 g3 ?_
    refine r_goto (tgt := 20) dX0_turnTold_16 (by decide) ?_
    refine r_letV hF (fun y4 hF => ?_)
    refine r_istore (ls' := [(4, .int y4), (3, .ref b3), (2, .int p2), (1, .ref a1), (0, .ref c)]) dX0_turnTold_20 (by decide) rfl ?_
    refine r_aload_n dX0_turnTold_22 rfl rfl ?_
    refine r_getI lk_X0_24 ha1 dX0_turnTold_23 ?_
    refine r_aload_n dX0_turnTold_26 rfl rfl ?_
    refine r_getI lk_X0_29 ha1 dX0_turnTold_27 ?_
    refine r_iload_n dX0_turnTold_30 rfl rfl ?_
    refine r_imul dX0_turnTold_31 ?_
    refine r_sipush (v := 1000) dX0_turnTold_32 (by decide) ?_
    refine r_idiv dX0_turnTold_35 (by decide) ?_
    refine r_aload_n dX0_turnTold_36 rfl rfl ?_
    refine r_iconst (v := 3) dX0_turnTold_37 (by decide) ?_
    refine r_iald hb3 (by rw [nb3]; decide) dX0_turnTold_38 ?_
    refine r_imul dX0_turnTold_39 ?_
    refine r_sipush (v := 1024) dX0_turnTold_40 (by decide) ?_
    refine r_idiv dX0_turnTold_43 (by decide) ?_
    refine r_iadd dX0_turnTold_44 ?_
    refine r_aload_n dX0_turnTold_45 rfl rfl ?_
    refine r_getI lk_X0_24 ha1 dX0_turnTold_46 ?_
    refine r_aload_n dX0_turnTold_49 rfl rfl ?_
    refine r_iconst (v := 4) dX0_turnTold_50 (by decide) ?_
    refine r_iald hb3 (by rw [nb3]; decide) dX0_turnTold_51 ?_
    refine r_imul dX0_turnTold_52 ?_
    refine r_bipush (v := 64) dX0_turnTold_53 (by decide) ?_
    refine r_idiv dX0_turnTold_55 (by decide) ?_
    refine r_isub dX0_turnTold_56 ?_
    refine r_iload dX0_turnTold_57 rfl ?_
    refine r_iadd dX0_turnTold_59 ?_
    obtain rfl := Option.some.inj hF
    exact r_ireturn (x := ((((I a1 6) + (((((I a1 7) * p2) / 1000) * (I b3 3)) / 1024)) - (((I a1 6) * (I b3 4)) / 64)) + y4)) rfl rfl dX0_turnTold_60 (Nat.le_of_ble_eq_true rfl) (Nat.le_of_ble_eq_true rfl)
def F_X2_turnTold (T : TM) (I : IM) (c : Nat) (a1 : Nat) (p2 : Int32) (b3 : Nat) : Int32 := (if (I a1 5) = 0 then 0 else (if 18 < (I a1 5) then 1 else (-1)))
set_option maxHeartbeats 4000000 in
theorem ok_X2_turnTold {E : GE} {T : TM} {I : IM} {J : JM} {P : PM} {c : Nat} {a1 : Nat} {p2 : Int32} {b3 : Nat} (hL : LOK T P) (hc : isF T c = true) (ha1 : IS T a1 1) (hb3 : IS T b3 13) (nb3 : T.2.2 b3 = 6) : Ctr E mX2_turnTold 0 0 0 [.ref c, .ref a1, .int p2, .ref b3] T I J P (some (.int (F_X2_turnTold T I c a1 p2 b3))) T I J P := by
  generalize hF : F_X2_turnTold T I c a1 p2 b3 = r
  unfold F_X2_turnTold at hF
  refine ctr_intro rfl (by decide +kernel) (Nat.le_of_ble_eq_true rfl) ?_
  refine r_sub (ls' := [(3, .ref b3), (2, .int p2), (1, .ref a1), (0, .ref c)]) [3, 2, 1, 0] rfl ?_
  refine r_aload_n dX2_turnTold_0 rfl rfl ?_
  refine r_getI lk_X2_7 ha1 dX2_turnTold_1 ?_
  refine r_if_ne (tgt := 9) dX2_turnTold_4 (by decide) (fun h1 => ?_) (fun h1 => ?_)
  · have hF := fw hF h1
    refine r_aload_n dX2_turnTold_9 rfl rfl ?_
    refine r_getI lk_X2_7 ha1 dX2_turnTold_10 ?_
    refine r_bipush (v := 18) dX2_turnTold_13 (by decide) ?_
    refine r_icmp_gt (tgt := 22) dX2_turnTold_15 (by decide) (fun h2 => ?_) (fun h2 => ?_)
    · have hF := tw hF h2
      refine r_iconst (v := 1) dX2_turnTold_22 (by decide) ?_
      obtain rfl := hF
      exact r_ireturn (x := 1) rfl rfl dX2_turnTold_23 (Nat.le_of_ble_eq_true rfl) (Nat.le_of_ble_eq_true rfl)
    · have hF := fw hF h2
      refine r_iconst (v := (-1)) dX2_turnTold_18 (by decide) ?_
      refine r_goto (tgt := 23) dX2_turnTold_19 (by decide) ?_
      obtain rfl := hF
      exact r_ireturn (x := (-1)) rfl rfl dX2_turnTold_23 (Nat.le_of_ble_eq_true rfl) (Nat.le_of_ble_eq_true rfl)
  · have hF := tw hF h1
    refine r_iconst (v := 0) dX2_turnTold_7 (by decide) ?_
    obtain rfl := hF
    exact r_ireturn (x := 0) rfl rfl dX2_turnTold_8 (Nat.le_of_ble_eq_true rfl) (Nat.le_of_ble_eq_true rfl)
def F_X4_turnTold (T : TM) (c : Nat) (a1 : Nat) (p2 : Int32) (b3 : Nat) : Int32 := 0
set_option maxHeartbeats 4000000 in
theorem ok_X4_turnTold {E : GE} {T : TM} {I : IM} {J : JM} {P : PM} {c : Nat} {a1 : Nat} {p2 : Int32} {b3 : Nat} (hL : LOK T P) (hc : isF T c = true) (ha1 : IS T a1 1) (hb3 : IS T b3 13) (nb3 : T.2.2 b3 = 6) : Ctr E mX4_turnTold 0 0 0 [.ref c, .ref a1, .int p2, .ref b3] T I J P (some (.int (F_X4_turnTold T c a1 p2 b3))) T I J P := by
  generalize hF : F_X4_turnTold T c a1 p2 b3 = r
  unfold F_X4_turnTold at hF
  refine ctr_intro rfl (by decide +kernel) (Nat.le_of_ble_eq_true rfl) ?_
  refine r_sub (ls' := [(3, .ref b3), (2, .int p2), (1, .ref a1), (0, .ref c)]) [3, 2, 1, 0] rfl ?_
  refine r_iconst (v := 0) dX4_turnTold_0 (by decide) ?_
  obtain rfl := hF
  exact r_ireturn (x := 0) rfl rfl dX4_turnTold_1 (Nat.le_of_ble_eq_true rfl) (Nat.le_of_ble_eq_true rfl)
def F_X5_turnTold (T : TM) (I : IM) (c : Nat) (a1 : Nat) (p2 : Int32) (b3 : Nat) : Option (Int32) := ((F_X0_turnTold T I c a1 p2 b3).bind (fun x1 => (if (I a1 5) < 10 then (some x1) else (if 26 < (I a1 5) then (some x1) else (some (-x1))))))
set_option maxHeartbeats 4000000 in
theorem ok_X5_turnTold {E : GE} {T : TM} {I : IM} {J : JM} {P : PM} {c : Nat} {a1 : Nat} {p2 : Int32} {b3 : Nat} {x : Int32} (hL : LOK T P) (hc : isF T c = true) (ha1 : IS T a1 1) (hb3 : IS T b3 13) (nb3 : T.2.2 b3 = 6) (hk : T.2.1 c = 5) (hF : F_X5_turnTold T I c a1 p2 b3 = some x) : Ctr E mX5_turnTold 1 0 0 [.ref c, .ref a1, .int p2, .ref b3] T I J P (some (.int x)) T I J P := by
  unfold F_X5_turnTold at hF
  refine ctr_intro rfl (by decide +kernel) (Nat.le_of_ble_eq_true rfl) ?_
  refine r_sub (ls' := [(3, .ref b3), (2, .int p2), (1, .ref a1), (0, .ref c)]) [3, 2, 1, 0] rfl ?_
  refine r_aload_n dX5_turnTold_0 rfl rfl ?_
  refine r_aload_n dX5_turnTold_1 rfl rfl ?_
  refine r_iload_n dX5_turnTold_2 rfl rfl ?_
  refine r_aload_n dX5_turnTold_3 rfl rfl ?_
  obtain ⟨x1, hx1, hF⟩ := bnd hF
  refine c_super_i (As := [.ref a1, .int p2, .ref b3]) mi_X0_turnTold rfl kw_599 kw_589 kw_441 (Or.inl rfl) kw_587 (by decide) hc (ok_X0_turnTold hL hc ha1 hb3 nb3 hx1) rfl rfl (Nat.le_of_ble_eq_true rfl) ⟨Nat.le_of_ble_eq_true rfl, Nat.le_of_ble_eq_true rfl⟩ ⟨Nat.le_of_ble_eq_true rfl, Nat.le_of_ble_eq_true rfl⟩ dX5_turnTold_4 ?_
  refine r_istore (ls' := [(4, .int x1), (3, .ref b3), (2, .int p2), (1, .ref a1), (0, .ref c)]) dX5_turnTold_7 (by decide) rfl ?_
  refine r_aload_n dX5_turnTold_9 rfl rfl ?_
  refine r_getI lk_X5_11 ha1 dX5_turnTold_10 ?_
  refine r_bipush (v := 10) dX5_turnTold_13 (by decide) ?_
  refine r_icmp_lt (tgt := 33) dX5_turnTold_15 (by decide) (fun h2 => ?_) (fun h2 => ?_)
  · have hF := tw hF h2
    refine r_iload dX5_turnTold_33 rfl ?_
    obtain rfl := Option.some.inj hF
    exact r_ireturn (x := x1) rfl rfl dX5_turnTold_35 (Nat.le_of_ble_eq_true rfl) (Nat.le_of_ble_eq_true rfl)
  · have hF := fw hF h2
    refine r_aload_n dX5_turnTold_18 rfl rfl ?_
    refine r_getI lk_X5_11 ha1 dX5_turnTold_19 ?_
    refine r_bipush (v := 26) dX5_turnTold_22 (by decide) ?_
    refine r_icmp_gt (tgt := 33) dX5_turnTold_24 (by decide) (fun h3 => ?_) (fun h3 => ?_)
    · have hF := tw hF h3
      refine r_iload dX5_turnTold_33 rfl ?_
      obtain rfl := Option.some.inj hF
      exact r_ireturn (x := x1) rfl rfl dX5_turnTold_35 (Nat.le_of_ble_eq_true rfl) (Nat.le_of_ble_eq_true rfl)
    · have hF := fw hF h3
      refine r_iload dX5_turnTold_27 rfl ?_
      refine r_ineg dX5_turnTold_29 ?_
      refine r_goto (tgt := 35) dX5_turnTold_30 (by decide) ?_
      obtain rfl := Option.some.inj hF
      exact r_ireturn (x := (-x1)) rfl rfl dX5_turnTold_35 (Nat.le_of_ble_eq_true rfl) (Nat.le_of_ble_eq_true rfl)
def F_X8_turnTold (T : TM) (I : IM) (c : Nat) (a1 : Nat) (p2 : Int32) (b3 : Nat) : Option (Int32) := ((F_X0_turnTold T I c a1 p2 b3).bind (fun x1 => (letb (if (I a1 6) < 0 then (-1) else 1) (fun y3 : Int32 => (some (x1 + y3))))))
set_option maxHeartbeats 4000000 in
theorem ok_X8_turnTold {E : GE} {T : TM} {I : IM} {J : JM} {P : PM} {c : Nat} {a1 : Nat} {p2 : Int32} {b3 : Nat} {x : Int32} (hL : LOK T P) (hc : isF T c = true) (ha1 : IS T a1 1) (hb3 : IS T b3 13) (nb3 : T.2.2 b3 = 6) (hF : F_X8_turnTold T I c a1 p2 b3 = some x) : Ctr E mX8_turnTold 1 0 0 [.ref c, .ref a1, .int p2, .ref b3] T I J P (some (.int x)) T I J P := by
  unfold F_X8_turnTold at hF
  refine ctr_intro rfl (by decide +kernel) (Nat.le_of_ble_eq_true rfl) ?_
  refine r_sub (ls' := [(3, .ref b3), (2, .int p2), (1, .ref a1), (0, .ref c)]) [3, 2, 1, 0] rfl ?_
  refine r_aload_n dX8_turnTold_0 rfl rfl ?_
  refine r_aload_n dX8_turnTold_1 rfl rfl ?_
  refine r_iload_n dX8_turnTold_2 rfl rfl ?_
  refine r_aload_n dX8_turnTold_3 rfl rfl ?_
  obtain ⟨x1, hx1, hF⟩ := bnd hF
  refine c_super_i (As := [.ref a1, .int p2, .ref b3]) mi_X0_turnTold rfl kw_603 kw_589 kw_452 (Or.inl rfl) kw_587 (by decide) hc (ok_X0_turnTold hL hc ha1 hb3 nb3 hx1) rfl rfl (Nat.le_of_ble_eq_true rfl) ⟨Nat.le_of_ble_eq_true rfl, Nat.le_of_ble_eq_true rfl⟩ ⟨Nat.le_of_ble_eq_true rfl, Nat.le_of_ble_eq_true rfl⟩ dX8_turnTold_4 ?_
  refine r_aload_n dX8_turnTold_7 rfl rfl ?_
  refine r_getI lk_X8_11 ha1 dX8_turnTold_8 ?_
  refine r_join (G1 := fun y3 : Int32 => WW E mX8_turnTold (RM 1 0 0) (ZM E 0 0 (some (.int x)) T I J P) 0 0 T I J P 19 [(3, .ref b3), (2, .int p2), (1, .ref a1), (0, .ref c)] [.int y3, .int x1]) hF (fun y3 hF => ?_) (fun y3 hv hJ => ?_)
  · refine r_iadd dX8_turnTold_19 ?_
    obtain rfl := Option.some.inj hF
    exact r_ireturn (x := (x1 + y3)) rfl rfl dX8_turnTold_20 (Nat.le_of_ble_eq_true rfl) (Nat.le_of_ble_eq_true rfl)
  · refine r_if_lt (tgt := 18) dX8_turnTold_11 (by decide) (fun h2 => ?_) (fun h2 => ?_)
    · have hv := tw hv h2
      refine r_iconst (v := (-1)) dX8_turnTold_18 (by decide) ?_
      obtain rfl := hv
      exact hJ
    · have hv := fw hv h2
      refine r_iconst (v := 1) dX8_turnTold_14 (by decide) ?_
      refine r_goto (tgt := 19) dX8_turnTold_15 (by decide) ?_
      obtain rfl := hv
      exact hJ
def F_J9_floorMod_7cf53 (p1 : Int32) (p2 : Int32) : Option (Int32) := (if ¬ p2 = 0 then (letb (p1 - p1 / p2 * p2) (fun y2 : Int32 => (if 0 ≤ (p1 ^^^ p2) then (some y2) else (if y2 = 0 then (some y2) else (some (y2 + p2)))))) else none)
set_option maxHeartbeats 4000000 in
theorem ok_J9_floorMod_7cf53 {E : GE} {T : TM} {I : IM} {J : JM} {P : PM} {p1 : Int32} {p2 : Int32} {x : Int32} (hL : LOK T P) (hF : F_J9_floorMod_7cf53 p1 p2 = some x) : Ctr E mJ9_floorMod_7cf53 0 0 0 [.int p1, .int p2] T I J P (some (.int x)) T I J P := by
  unfold F_J9_floorMod_7cf53 at hF
  refine ctr_introF rfl (by decide +kernel) (Nat.le_of_ble_eq_true rfl) ?_
  refine r_sub (ls' := [(1, .int p2), (0, .int p1)]) [1, 0] rfl ?_
  refine r_iload_n dJ9_floorMod_7cf53_0 rfl rfl ?_
  refine r_iload_n dJ9_floorMod_7cf53_1 rfl rfl ?_
  obtain ⟨g1, hF⟩ := gd hF
  refine r_irem dJ9_floorMod_7cf53_2 g1 ?_
  refine r_letV hF (fun y2 hF => ?_)
  refine r_istore_n (ls' := [(2, .int y2), (1, .int p2), (0, .int p1)]) dJ9_floorMod_7cf53_3 rfl (by decide) rfl ?_
  refine r_iload_n dJ9_floorMod_7cf53_4 rfl rfl ?_
  refine r_iload_n dJ9_floorMod_7cf53_5 rfl rfl ?_
  refine r_ixor dJ9_floorMod_7cf53_6 ?_
  refine r_if_ge (tgt := 18) dJ9_floorMod_7cf53_7 (by decide) (fun h3 => ?_) (fun h3 => ?_)
  · have hF := tw hF h3
    refine r_iload_n dJ9_floorMod_7cf53_18 rfl rfl ?_
    obtain rfl := Option.some.inj hF
    exact r_ireturn (x := y2) rfl rfl dJ9_floorMod_7cf53_19 (Nat.le_of_ble_eq_true rfl) (Nat.le_of_ble_eq_true rfl)
  · have hF := fw hF h3
    refine r_iload_n dJ9_floorMod_7cf53_10 rfl rfl ?_
    refine r_if_eq (tgt := 18) dJ9_floorMod_7cf53_11 (by decide) (fun h4 => ?_) (fun h4 => ?_)
    · have hF := tw hF h4
      refine r_iload_n dJ9_floorMod_7cf53_18 rfl rfl ?_
      obtain rfl := Option.some.inj hF
      exact r_ireturn (x := y2) rfl rfl dJ9_floorMod_7cf53_19 (Nat.le_of_ble_eq_true rfl) (Nat.le_of_ble_eq_true rfl)
    · have hF := fw hF h4
      refine r_iload_n dJ9_floorMod_7cf53_14 rfl rfl ?_
      refine r_iload_n dJ9_floorMod_7cf53_15 rfl rfl ?_
      refine r_iadd dJ9_floorMod_7cf53_16 ?_
      obtain rfl := Option.some.inj hF
      exact r_ireturn (x := (y2 + p2)) rfl rfl dJ9_floorMod_7cf53_17 (Nat.le_of_ble_eq_true rfl) (Nat.le_of_ble_eq_true rfl)
def F_X1_countSwing (I : IM) (a : Nat) (p1 : Int32) : Option (IM) := (if (I a 2) ≤ 0 then (some I) else (if p1 ≤ 0 then (if 0 ≤ p1 then (some I) else (if (I a 6) ≤ 0 then (some I) else (letb (up2 I a 9 ((I a 9) + 1)) (fun I10 : IM => (some I10))))) else (if (I a 6) < 0 then (letb (up2 I a 9 ((I a 9) + 1)) (fun I13 : IM => (some I13))) else (if 0 ≤ p1 then (some I) else (if (I a 6) ≤ 0 then (some I) else (letb (up2 I a 9 ((I a 9) + 1)) (fun I18 : IM => (some I18))))))))
set_option maxHeartbeats 4000000 in
theorem ok_X1_countSwing {E : GE} {T : TM} {I : IM} {J : JM} {P : PM} {a : Nat} {p1 : Int32} {x : IM} (hL : LOK T P) (ha : IS T a 1) (hF : F_X1_countSwing I a p1 = some x) : Ctr E mX1_countSwing 0 0 0 [.ref a, .int p1] T I J P none T x J P := by
  unfold F_X1_countSwing at hF
  refine ctr_intro rfl (by decide +kernel) (Nat.le_of_ble_eq_true rfl) ?_
  refine r_sub (ls' := [(1, .int p1), (0, .ref a)]) [1, 0] rfl ?_
  refine r_aload_n dX1_countSwing_0 rfl rfl ?_
  refine r_getI lk_X1_22 ha dX1_countSwing_1 ?_
  refine r_if_le (tgt := 39) dX1_countSwing_4 (by decide) (fun h2 => ?_) (fun h2 => ?_)
  · have hF := tw hF h2
    obtain rfl := Option.some.inj hF
    exact r_return rfl dX1_countSwing_39 (Nat.le_of_ble_eq_true rfl) (Nat.le_of_ble_eq_true rfl)
  · have hF := fw hF h2
    refine r_iload_n dX1_countSwing_7 rfl rfl ?_
    refine r_if_le (tgt := 18) dX1_countSwing_8 (by decide) (fun h5 => ?_) (fun h5 => ?_)
    · have hF := tw hF h5
      refine r_iload_n dX1_countSwing_18 rfl rfl ?_
      refine r_if_ge (tgt := 39) dX1_countSwing_19 (by decide) (fun h7 => ?_) (fun h7 => ?_)
      · have hF := tw hF h7
        obtain rfl := Option.some.inj hF
        exact r_return rfl dX1_countSwing_39 (Nat.le_of_ble_eq_true rfl) (Nat.le_of_ble_eq_true rfl)
      · have hF := fw hF h7
        refine r_aload_n dX1_countSwing_22 rfl rfl ?_
        refine r_getI lk_X1_34 ha dX1_countSwing_23 ?_
        refine r_if_le (tgt := 39) dX1_countSwing_26 (by decide) (fun h9 => ?_) (fun h9 => ?_)
        · have hF := tw hF h9
          obtain rfl := Option.some.inj hF
          exact r_return rfl dX1_countSwing_39 (Nat.le_of_ble_eq_true rfl) (Nat.le_of_ble_eq_true rfl)
        · have hF := fw hF h9
          refine r_aload_n dX1_countSwing_29 rfl rfl ?_
          refine r_dup dX1_countSwing_30 rfl ?_
          refine r_getI lk_X1_43 ha dX1_countSwing_31 ?_
          refine r_iconst (v := 1) dX1_countSwing_34 (by decide) ?_
          refine r_iadd dX1_countSwing_35 ?_
          refine r_putI lk_X1_43 (Or.inl rfl) ha rfl rfl dX1_countSwing_36 ?_
          refine r_letI hF (fun I10 hF => ?_)
          obtain rfl := Option.some.inj hF
          exact r_return rfl dX1_countSwing_39 (Nat.le_of_ble_eq_true rfl) (Nat.le_of_ble_eq_true rfl)
    · have hF := fw hF h5
      refine r_aload_n dX1_countSwing_11 rfl rfl ?_
      refine r_getI lk_X1_34 ha dX1_countSwing_12 ?_
      refine r_if_lt (tgt := 29) dX1_countSwing_15 (by decide) (fun h12 => ?_) (fun h12 => ?_)
      · have hF := tw hF h12
        refine r_aload_n dX1_countSwing_29 rfl rfl ?_
        refine r_dup dX1_countSwing_30 rfl ?_
        refine r_getI lk_X1_43 ha dX1_countSwing_31 ?_
        refine r_iconst (v := 1) dX1_countSwing_34 (by decide) ?_
        refine r_iadd dX1_countSwing_35 ?_
        refine r_putI lk_X1_43 (Or.inl rfl) ha rfl rfl dX1_countSwing_36 ?_
        refine r_letI hF (fun I13 hF => ?_)
        obtain rfl := Option.some.inj hF
        exact r_return rfl dX1_countSwing_39 (Nat.le_of_ble_eq_true rfl) (Nat.le_of_ble_eq_true rfl)
      · have hF := fw hF h12
        refine r_iload_n dX1_countSwing_18 rfl rfl ?_
        refine r_if_ge (tgt := 39) dX1_countSwing_19 (by decide) (fun h15 => ?_) (fun h15 => ?_)
        · have hF := tw hF h15
          obtain rfl := Option.some.inj hF
          exact r_return rfl dX1_countSwing_39 (Nat.le_of_ble_eq_true rfl) (Nat.le_of_ble_eq_true rfl)
        · have hF := fw hF h15
          refine r_aload_n dX1_countSwing_22 rfl rfl ?_
          refine r_getI lk_X1_34 ha dX1_countSwing_23 ?_
          refine r_if_le (tgt := 39) dX1_countSwing_26 (by decide) (fun h17 => ?_) (fun h17 => ?_)
          · have hF := tw hF h17
            obtain rfl := Option.some.inj hF
            exact r_return rfl dX1_countSwing_39 (Nat.le_of_ble_eq_true rfl) (Nat.le_of_ble_eq_true rfl)
          · have hF := fw hF h17
            refine r_aload_n dX1_countSwing_29 rfl rfl ?_
            refine r_dup dX1_countSwing_30 rfl ?_
            refine r_getI lk_X1_43 ha dX1_countSwing_31 ?_
            refine r_iconst (v := 1) dX1_countSwing_34 (by decide) ?_
            refine r_iadd dX1_countSwing_35 ?_
            refine r_putI lk_X1_43 (Or.inl rfl) ha rfl rfl dX1_countSwing_36 ?_
            refine r_letI hF (fun I18 hF => ?_)
            obtain rfl := Option.some.inj hF
            exact r_return rfl dX1_countSwing_39 (Nat.le_of_ble_eq_true rfl) (Nat.le_of_ble_eq_true rfl)
def F_X1_countRound (I : IM) (a : Nat) (p1 : Int32) : Option (IM) := (if p1 < 27 then (if 8 < p1 then (some I) else (if (I a 5) < 27 then (some I) else (letb (up2 I a 10 ((I a 10) + 1)) (fun I8 : IM => (some I8))))) else (if (I a 5) ≤ 8 then (letb (up2 I a 10 ((I a 10) + 1)) (fun I11 : IM => (some I11))) else (if 8 < p1 then (some I) else (if (I a 5) < 27 then (some I) else (letb (up2 I a 10 ((I a 10) + 1)) (fun I16 : IM => (some I16)))))))
set_option maxHeartbeats 4000000 in
theorem ok_X1_countRound {E : GE} {T : TM} {I : IM} {J : JM} {P : PM} {a : Nat} {p1 : Int32} {x : IM} (hL : LOK T P) (ha : IS T a 1) (hF : F_X1_countRound I a p1 = some x) : Ctr E mX1_countRound 0 0 0 [.ref a, .int p1] T I J P none T x J P := by
  unfold F_X1_countRound at hF
  refine ctr_intro rfl (by decide +kernel) (Nat.le_of_ble_eq_true rfl) ?_
  refine r_sub (ls' := [(1, .int p1), (0, .ref a)]) [1, 0] rfl ?_
  refine r_iload_n dX1_countRound_0 rfl rfl ?_
  refine r_bipush (v := 27) dX1_countRound_1 (by decide) ?_
  refine r_icmp_lt (tgt := 15) dX1_countRound_3 (by decide) (fun h3 => ?_) (fun h3 => ?_)
  · have hF := tw hF h3
    refine r_iload_n dX1_countRound_15 rfl rfl ?_
    refine r_bipush (v := 8) dX1_countRound_16 (by decide) ?_
    refine r_icmp_gt (tgt := 40) dX1_countRound_18 (by decide) (fun h5 => ?_) (fun h5 => ?_)
    · have hF := tw hF h5
      obtain rfl := Option.some.inj hF
      exact r_return rfl dX1_countRound_40 (Nat.le_of_ble_eq_true rfl) (Nat.le_of_ble_eq_true rfl)
    · have hF := fw hF h5
      refine r_aload_n dX1_countRound_21 rfl rfl ?_
      refine r_getI lk_X1_31 ha dX1_countRound_22 ?_
      refine r_bipush (v := 27) dX1_countRound_25 (by decide) ?_
      refine r_icmp_lt (tgt := 40) dX1_countRound_27 (by decide) (fun h7 => ?_) (fun h7 => ?_)
      · have hF := tw hF h7
        obtain rfl := Option.some.inj hF
        exact r_return rfl dX1_countRound_40 (Nat.le_of_ble_eq_true rfl) (Nat.le_of_ble_eq_true rfl)
      · have hF := fw hF h7
        refine r_aload_n dX1_countRound_30 rfl rfl ?_
        refine r_dup dX1_countRound_31 rfl ?_
        refine r_getI lk_X1_46 ha dX1_countRound_32 ?_
        refine r_iconst (v := 1) dX1_countRound_35 (by decide) ?_
        refine r_iadd dX1_countRound_36 ?_
        refine r_putI lk_X1_46 (Or.inl rfl) ha rfl rfl dX1_countRound_37 ?_
        refine r_letI hF (fun I8 hF => ?_)
        obtain rfl := Option.some.inj hF
        exact r_return rfl dX1_countRound_40 (Nat.le_of_ble_eq_true rfl) (Nat.le_of_ble_eq_true rfl)
  · have hF := fw hF h3
    refine r_aload_n dX1_countRound_6 rfl rfl ?_
    refine r_getI lk_X1_31 ha dX1_countRound_7 ?_
    refine r_bipush (v := 8) dX1_countRound_10 (by decide) ?_
    refine r_icmp_le (tgt := 30) dX1_countRound_12 (by decide) (fun h10 => ?_) (fun h10 => ?_)
    · have hF := tw hF h10
      refine r_aload_n dX1_countRound_30 rfl rfl ?_
      refine r_dup dX1_countRound_31 rfl ?_
      refine r_getI lk_X1_46 ha dX1_countRound_32 ?_
      refine r_iconst (v := 1) dX1_countRound_35 (by decide) ?_
      refine r_iadd dX1_countRound_36 ?_
      refine r_putI lk_X1_46 (Or.inl rfl) ha rfl rfl dX1_countRound_37 ?_
      refine r_letI hF (fun I11 hF => ?_)
      obtain rfl := Option.some.inj hF
      exact r_return rfl dX1_countRound_40 (Nat.le_of_ble_eq_true rfl) (Nat.le_of_ble_eq_true rfl)
    · have hF := fw hF h10
      refine r_iload_n dX1_countRound_15 rfl rfl ?_
      refine r_bipush (v := 8) dX1_countRound_16 (by decide) ?_
      refine r_icmp_gt (tgt := 40) dX1_countRound_18 (by decide) (fun h13 => ?_) (fun h13 => ?_)
      · have hF := tw hF h13
        obtain rfl := Option.some.inj hF
        exact r_return rfl dX1_countRound_40 (Nat.le_of_ble_eq_true rfl) (Nat.le_of_ble_eq_true rfl)
      · have hF := fw hF h13
        refine r_aload_n dX1_countRound_21 rfl rfl ?_
        refine r_getI lk_X1_31 ha dX1_countRound_22 ?_
        refine r_bipush (v := 27) dX1_countRound_25 (by decide) ?_
        refine r_icmp_lt (tgt := 40) dX1_countRound_27 (by decide) (fun h15 => ?_) (fun h15 => ?_)
        · have hF := tw hF h15
          obtain rfl := Option.some.inj hF
          exact r_return rfl dX1_countRound_40 (Nat.le_of_ble_eq_true rfl) (Nat.le_of_ble_eq_true rfl)
        · have hF := fw hF h15
          refine r_aload_n dX1_countRound_30 rfl rfl ?_
          refine r_dup dX1_countRound_31 rfl ?_
          refine r_getI lk_X1_46 ha dX1_countRound_32 ?_
          refine r_iconst (v := 1) dX1_countRound_35 (by decide) ?_
          refine r_iadd dX1_countRound_36 ?_
          refine r_putI lk_X1_46 (Or.inl rfl) ha rfl rfl dX1_countRound_37 ?_
          refine r_letI hF (fun I16 hF => ?_)
          obtain rfl := Option.some.inj hF
          exact r_return rfl dX1_countRound_40 (Nat.le_of_ble_eq_true rfl) (Nat.le_of_ble_eq_true rfl)
def F_V_downTold (T : TM) (c : Nat) (p1 : Int32) : Int32 := (if T.2.1 c = 0 then F_X0_downTold T c p1 else (if T.2.1 c = 2 then F_X0_downTold T c p1 else (if T.2.1 c = 4 then F_X0_downTold T c p1 else (if T.2.1 c = 5 then F_X0_downTold T c p1 else (if T.2.1 c = 8 then F_X0_downTold T c p1 else (if T.2.1 c = 9 then F_X9_downTold T c p1 else 0))))))
set_option maxHeartbeats 4000000 in
theorem vs_X1_62 {E : GE} {M : MD} {R : Room} {Z : State → Array Value → List Frame → State → Prop} {kc ks : Nat} {T : TM} {I : IM} {J : JM} {P : PM} {pc : Nat} {ls : List (Nat × Value)} {st stk : List Value} {c : Nat} {p1 : Int32} {x : Int32} (hL : LOK T P) (hc : isF T c = true) (hx : F_V_downTold T c p1 = x) (hown : M.1.cls = RX1) (hstk : stk = [.int p1].reverse ++ .ref c :: st) (hcat : (st.map fun v => v.category).sum ≤ 8) (hR : 0 + 1 ≤ R.frames ∧ 36 + 37 * 0 ≤ R.locals) (hf : kc ≤ R.cells ∧ ks ≤ R.slots) (hd : decode M.2.1 pc = .ok (.invokevirtual 62, 3)) (kk : WW E M R Z kc ks T I J P (pc + 3) ls (.int x :: st)) : WW E M R Z kc ks T I J P pc ls stk := by
  obtain ⟨ci, hci, hI⟩ := isF_of hc
  unfold F_V_downTold at hx
  have hk := hI.2.2
  simp only [fks, List.mem_cons, List.not_mem_nil, or_false] at hci
  rcases hci with rfl | rfl | rfl | rfl | rfl | rfl
  · have hx := tw (hx) hk
    obtain rfl := hx
    exact c_virtU_i (ci := 0) (x0 := yX0_downTold) mi_X0_downTold (by rw [hown]; exact kw_574) kw_577 kw_575 kw_576 kw_575 kw_585 ⟨by decide, by decide, by decide +kernel⟩ rfl (by decide) hI (ok_X0_downTold hL hc) rfl hstk hcat ⟨Nat.le_trans (Nat.le_of_ble_eq_true rfl : 0 + 1 ≤ 0 + 1) hR.1, Nat.le_trans (Nat.le_of_ble_eq_true rfl : 8 + (mX0_downTold.2.2.1 + 11) + 37 * 0 ≤ 36 + 37 * 0) hR.2⟩ hf hd kk
  · have hx := tw (fw (hx) (by rw [hk]; decide)) hk
    obtain rfl := hx
    exact c_virtU_i (ci := 2) (x0 := yX0_downTold) mi_X0_downTold (by rw [hown]; exact kw_574) kw_577 kw_575 kw_578 kw_575 kw_585 ⟨by decide, by decide, by decide +kernel⟩ rfl (by decide) hI (ok_X0_downTold hL hc) rfl hstk hcat ⟨Nat.le_trans (Nat.le_of_ble_eq_true rfl : 0 + 1 ≤ 0 + 1) hR.1, Nat.le_trans (Nat.le_of_ble_eq_true rfl : 8 + (mX0_downTold.2.2.1 + 11) + 37 * 0 ≤ 36 + 37 * 0) hR.2⟩ hf hd kk
  · have hx := tw (fw (fw (hx) (by rw [hk]; decide)) (by rw [hk]; decide)) hk
    obtain rfl := hx
    exact c_virtU_i (ci := 4) (x0 := yX0_downTold) mi_X0_downTold (by rw [hown]; exact kw_574) kw_577 kw_575 kw_579 kw_575 kw_585 ⟨by decide, by decide, by decide +kernel⟩ rfl (by decide) hI (ok_X0_downTold hL hc) rfl hstk hcat ⟨Nat.le_trans (Nat.le_of_ble_eq_true rfl : 0 + 1 ≤ 0 + 1) hR.1, Nat.le_trans (Nat.le_of_ble_eq_true rfl : 8 + (mX0_downTold.2.2.1 + 11) + 37 * 0 ≤ 36 + 37 * 0) hR.2⟩ hf hd kk
  · have hx := tw (fw (fw (fw (hx) (by rw [hk]; decide)) (by rw [hk]; decide)) (by rw [hk]; decide)) hk
    obtain rfl := hx
    exact c_virtU_i (ci := 5) (x0 := yX0_downTold) mi_X0_downTold (by rw [hown]; exact kw_574) kw_577 kw_575 kw_580 kw_575 kw_585 ⟨by decide, by decide, by decide +kernel⟩ rfl (by decide) hI (ok_X0_downTold hL hc) rfl hstk hcat ⟨Nat.le_trans (Nat.le_of_ble_eq_true rfl : 0 + 1 ≤ 0 + 1) hR.1, Nat.le_trans (Nat.le_of_ble_eq_true rfl : 8 + (mX0_downTold.2.2.1 + 11) + 37 * 0 ≤ 36 + 37 * 0) hR.2⟩ hf hd kk
  · have hx := tw (fw (fw (fw (fw (hx) (by rw [hk]; decide)) (by rw [hk]; decide)) (by rw [hk]; decide)) (by rw [hk]; decide)) hk
    obtain rfl := hx
    exact c_virtU_i (ci := 8) (x0 := yX0_downTold) mi_X0_downTold (by rw [hown]; exact kw_574) kw_577 kw_575 kw_581 kw_575 kw_585 ⟨by decide, by decide, by decide +kernel⟩ rfl (by decide) hI (ok_X0_downTold hL hc) rfl hstk hcat ⟨Nat.le_trans (Nat.le_of_ble_eq_true rfl : 0 + 1 ≤ 0 + 1) hR.1, Nat.le_trans (Nat.le_of_ble_eq_true rfl : 8 + (mX0_downTold.2.2.1 + 11) + 37 * 0 ≤ 36 + 37 * 0) hR.2⟩ hf hd kk
  · have hx := tw (fw (fw (fw (fw (fw (hx) (by rw [hk]; decide)) (by rw [hk]; decide)) (by rw [hk]; decide)) (by rw [hk]; decide)) (by rw [hk]; decide)) hk
    obtain rfl := hx
    exact c_virtU_i (ci := 9) (x0 := yX0_downTold) mi_X9_downTold (by rw [hown]; exact kw_574) kw_577 kw_575 kw_582 kw_583 kw_585 ⟨by decide, by decide, by decide +kernel⟩ rfl (by decide) hI (ok_X9_downTold hL hc hk) rfl hstk hcat ⟨Nat.le_trans (Nat.le_of_ble_eq_true rfl : 0 + 1 ≤ 0 + 1) hR.1, Nat.le_trans (Nat.le_of_ble_eq_true rfl : 8 + (mX9_downTold.2.2.1 + 11) + 37 * 0 ≤ 36 + 37 * 0) hR.2⟩ hf hd kk

def F_V_turnTold (T : TM) (I : IM) (c : Nat) (a1 : Nat) (p2 : Int32) (b3 : Nat) : Option (Int32) := (if T.2.1 c = 0 then F_X0_turnTold T I c a1 p2 b3 else (if T.2.1 c = 2 then some (F_X2_turnTold T I c a1 p2 b3) else (if T.2.1 c = 4 then some (F_X4_turnTold T c a1 p2 b3) else (if T.2.1 c = 5 then F_X5_turnTold T I c a1 p2 b3 else (if T.2.1 c = 8 then F_X8_turnTold T I c a1 p2 b3 else (if T.2.1 c = 9 then F_X8_turnTold T I c a1 p2 b3 else none))))))
set_option maxHeartbeats 4000000 in
theorem vs_X1_65 {E : GE} {M : MD} {R : Room} {Z : State → Array Value → List Frame → State → Prop} {kc ks : Nat} {T : TM} {I : IM} {J : JM} {P : PM} {pc : Nat} {ls : List (Nat × Value)} {st stk : List Value} {c : Nat} {a1 : Nat} {p2 : Int32} {b3 : Nat} {x : Int32} (hL : LOK T P) (hc : isF T c = true) (ha1 : IS T a1 1) (hb3 : IS T b3 13) (nb3 : T.2.2 b3 = 6) (hx : F_V_turnTold T I c a1 p2 b3 = some x) (hown : M.1.cls = RX1) (hstk : stk = [.ref a1, .int p2, .ref b3].reverse ++ .ref c :: st) (hcat : (st.map fun v => v.category).sum ≤ 8) (hR : 1 + 1 ≤ R.frames ∧ 36 + 37 * 1 ≤ R.locals) (hf : kc ≤ R.cells ∧ ks ≤ R.slots) (hd : decode M.2.1 pc = .ok (.invokevirtual 65, 3)) (kk : WW E M R Z kc ks T I J P (pc + 3) ls (.int x :: st)) : WW E M R Z kc ks T I J P pc ls stk := by
  obtain ⟨ci, hci, hI⟩ := isF_of hc
  unfold F_V_turnTold at hx
  have hk := hI.2.2
  simp only [fks, List.mem_cons, List.not_mem_nil, or_false] at hci
  rcases hci with rfl | rfl | rfl | rfl | rfl | rfl
  · have hx := tw (hx) hk
    exact c_virtU_i (ci := 0) (x0 := yX0_turnTold) mi_X0_turnTold (by rw [hown]; exact kw_586) kw_589 kw_587 kw_588 kw_587 kw_605 ⟨by decide, by decide, by decide +kernel⟩ rfl (by decide) hI (ok_X0_turnTold hL hc ha1 hb3 nb3 hx) rfl hstk hcat ⟨Nat.le_trans (Nat.le_of_ble_eq_true rfl : 0 + 1 ≤ 1 + 1) hR.1, Nat.le_trans (Nat.le_of_ble_eq_true rfl : 8 + (mX0_turnTold.2.2.1 + 11) + 37 * 0 ≤ 36 + 37 * 1) hR.2⟩ hf hd kk
  · have hx := tw (fw (hx) (by rw [hk]; decide)) hk
    obtain rfl := Option.some.inj hx
    exact c_virtU_i (ci := 2) (x0 := yX0_turnTold) mi_X2_turnTold (by rw [hown]; exact kw_586) kw_589 kw_587 kw_590 kw_591 kw_605 ⟨by decide, by decide, by decide +kernel⟩ rfl (by decide) hI (ok_X2_turnTold hL hc ha1 hb3 nb3) rfl hstk hcat ⟨Nat.le_trans (Nat.le_of_ble_eq_true rfl : 0 + 1 ≤ 1 + 1) hR.1, Nat.le_trans (Nat.le_of_ble_eq_true rfl : 8 + (mX2_turnTold.2.2.1 + 11) + 37 * 0 ≤ 36 + 37 * 1) hR.2⟩ hf hd kk
  · have hx := tw (fw (fw (hx) (by rw [hk]; decide)) (by rw [hk]; decide)) hk
    obtain rfl := Option.some.inj hx
    exact c_virtU_i (ci := 4) (x0 := yX0_turnTold) mi_X4_turnTold (by rw [hown]; exact kw_586) kw_589 kw_587 kw_593 kw_594 kw_605 ⟨by decide, by decide, by decide +kernel⟩ rfl (by decide) hI (ok_X4_turnTold hL hc ha1 hb3 nb3) rfl hstk hcat ⟨Nat.le_trans (Nat.le_of_ble_eq_true rfl : 0 + 1 ≤ 1 + 1) hR.1, Nat.le_trans (Nat.le_of_ble_eq_true rfl : 8 + (mX4_turnTold.2.2.1 + 11) + 37 * 0 ≤ 36 + 37 * 1) hR.2⟩ hf hd kk
  · have hx := tw (fw (fw (fw (hx) (by rw [hk]; decide)) (by rw [hk]; decide)) (by rw [hk]; decide)) hk
    exact c_virtU_i (ci := 5) (x0 := yX0_turnTold) mi_X5_turnTold (by rw [hown]; exact kw_586) kw_589 kw_587 kw_596 kw_597 kw_605 ⟨by decide, by decide, by decide +kernel⟩ rfl (by decide) hI (ok_X5_turnTold hL hc ha1 hb3 nb3 hk hx) rfl hstk hcat ⟨Nat.le_trans (Nat.le_of_ble_eq_true rfl : 1 + 1 ≤ 1 + 1) hR.1, Nat.le_trans (Nat.le_of_ble_eq_true rfl : 8 + (mX5_turnTold.2.2.1 + 11) + 37 * 1 ≤ 36 + 37 * 1) hR.2⟩ hf hd kk
  · have hx := tw (fw (fw (fw (fw (hx) (by rw [hk]; decide)) (by rw [hk]; decide)) (by rw [hk]; decide)) (by rw [hk]; decide)) hk
    exact c_virtU_i (ci := 8) (x0 := yX0_turnTold) mi_X8_turnTold (by rw [hown]; exact kw_586) kw_589 kw_587 kw_600 kw_601 kw_605 ⟨by decide, by decide, by decide +kernel⟩ rfl (by decide) hI (ok_X8_turnTold hL hc ha1 hb3 nb3 hx) rfl hstk hcat ⟨Nat.le_trans (Nat.le_of_ble_eq_true rfl : 1 + 1 ≤ 1 + 1) hR.1, Nat.le_trans (Nat.le_of_ble_eq_true rfl : 8 + (mX8_turnTold.2.2.1 + 11) + 37 * 1 ≤ 36 + 37 * 1) hR.2⟩ hf hd kk
  · have hx := tw (fw (fw (fw (fw (fw (hx) (by rw [hk]; decide)) (by rw [hk]; decide)) (by rw [hk]; decide)) (by rw [hk]; decide)) (by rw [hk]; decide)) hk
    exact c_virtU_i (ci := 9) (x0 := yX0_turnTold) mi_X8_turnTold (by rw [hown]; exact kw_586) kw_589 kw_587 kw_604 kw_601 kw_605 ⟨by decide, by decide, by decide +kernel⟩ rfl (by decide) hI (ok_X8_turnTold hL hc ha1 hb3 nb3 hx) rfl hstk hcat ⟨Nat.le_trans (Nat.le_of_ble_eq_true rfl : 1 + 1 ≤ 1 + 1) hR.1, Nat.le_trans (Nat.le_of_ble_eq_true rfl : 8 + (mX8_turnTold.2.2.1 + 11) + 37 * 1 ≤ 36 + 37 * 1) hR.2⟩ hf hd kk

def F_X1_step (T : TM) (I : IM) (P : PM) (a : Nat) (b1 : Nat) : Option (IM) := (osel (P a 0) (some I) (fun c1 => ((F_X11_sineOf (I a 5)).bind (fun x3 => ((F_X11_sineOf (((I a 5) + 9) - ((I a 5) + 9) / 36 * 36)).bind (fun x4 => (letb ((((I a 7) + (((((I a 8) * x3) / 1000) * (I b1 0)) / 32)) - (((I a 7) * (I b1 1)) / 64)) + (((I b1 5) - 32) / 4)) (fun y5 : Int32 => (letb (((I a 8) + (I a 1)) - (((I a 8) * ((I b1 1) + (((I b1 2) * (if 0 ≤ x4 then x4 else 0 - x4)) / 1000))) / 64)) (fun y6 : Int32 => (letb (up2 I a 7 (F_X11_heldTo y5 9999)) (fun I7 : IM => (if isF T c1 = true then (letb (up2 I7 a 8 (F_X11_heldTo (F_V_downTold T c1 y6) 9999)) (fun I9 : IM => (letb (I9 a 6) (fun y10 : Int32 => ((F_V_turnTold T I9 c1 a x4 b1).bind (fun x11 => (letb (up2 I9 a 6 (F_X11_heldTo x11 9)) (fun I12 : IM => (letb (I12 a 5) (fun y13 : Int32 => ((F_J9_floorMod_7cf53 ((I12 a 5) + (I12 a 6)) 36).bind (fun x14 => (letb (up2 I12 a 5 x14) (fun I15 : IM => (letb (up2 I15 a 3 ((I15 a 3) + ((I15 a 7) / 8))) (fun I16 : IM => (letb (up2 I16 a 4 ((I16 a 4) - ((I16 a 8) / 8))) (fun I17 : IM => ((F_X1_countSwing I17 a y10).bind (fun x18 => ((F_X1_countRound x18 a y13).bind (fun x19 => (letb (up2 x19 a 2 ((x19 a 2) + 1)) (fun I20 : IM => (some I20))))))))))))))))))))))))) else none)))))))))))))
set_option maxHeartbeats 4000000 in
theorem ok_X1_step {E : GE} {T : TM} {I : IM} {J : JM} {P : PM} {a : Nat} {b1 : Nat} {x : IM} (hL : LOK T P) (ha : IS T a 1) (hb1 : IS T b1 13) (nb1 : T.2.2 b1 = 6) (hF : F_X1_step T I P a b1 = some x) : Ctr E mX1_step 2 0 0 [.ref a, .ref b1] T I J P none T x J P := by
  unfold F_X1_step at hF
  refine ctr_intro rfl (by decide +kernel) (Nat.le_of_ble_eq_true rfl) ?_
  refine r_sub (ls' := [(1, .ref b1), (0, .ref a)]) [1, 0] rfl ?_
  refine r_aload_n dX1_step_0 rfl rfl ?_
  rcases q2 : (P a 0) with _ | c1
  · have hF := (osel_n q2).symm.trans hF
    refine r_getN lk_X1_9 ha q2 dX1_step_1 ?_
    refine r_ifnonnullN dX1_step_4 ?_
    obtain rfl := Option.some.inj hF
    exact r_return rfl dX1_step_7 (Nat.le_of_ble_eq_true rfl) (Nat.le_of_ble_eq_true rfl)
  · have hF := (osel_s q2).symm.trans hF
    refine r_getP lk_X1_9 ha q2 dX1_step_1 ?_
    refine r_ifnonnull (tgt := 8) dX1_step_4 (by decide) ?_
    refine r_aload_n dX1_step_8 rfl rfl ?_
    refine r_getI lk_X1_31 ha dX1_step_9 ?_
    obtain ⟨x3, hx3, hF⟩ := bnd hF
    refine c_staticN_i (As := [.int (I a 5)]) mi_X11_sineOf kw_532 rfl (by simp [nests]) (ok_X11_sineOf hL  hx3) rfl rfl (Nat.le_of_ble_eq_true rfl) ⟨Nat.le_of_ble_eq_true rfl, Nat.le_of_ble_eq_true rfl⟩ ⟨Nat.le_of_ble_eq_true rfl, Nat.le_of_ble_eq_true rfl⟩ dX1_step_12 ?_
    refine r_istore_n (ls' := [(2, .int x3), (1, .ref b1), (0, .ref a)]) dX1_step_15 rfl (by decide) rfl ?_
    refine r_aload_n dX1_step_16 rfl rfl ?_
    refine r_getI lk_X1_31 ha dX1_step_17 ?_
    refine r_bipush (v := 9) dX1_step_20 (by decide) ?_
    refine r_iadd dX1_step_22 ?_
    refine r_bipush (v := 36) dX1_step_23 (by decide) ?_
    refine r_irem dX1_step_25 (by decide) ?_
    obtain ⟨x4, hx4, hF⟩ := bnd hF
    refine c_staticN_i (As := [.int (((I a 5) + 9) - ((I a 5) + 9) / 36 * 36)]) mi_X11_sineOf kw_532 rfl (by simp [nests]) (ok_X11_sineOf hL  hx4) rfl rfl (Nat.le_of_ble_eq_true rfl) ⟨Nat.le_of_ble_eq_true rfl, Nat.le_of_ble_eq_true rfl⟩ ⟨Nat.le_of_ble_eq_true rfl, Nat.le_of_ble_eq_true rfl⟩ dX1_step_26 ?_
    refine r_istore_n (ls' := [(3, .int x4), (2, .int x3), (1, .ref b1), (0, .ref a)]) dX1_step_29 rfl (by decide) rfl ?_
    refine r_aload_n dX1_step_30 rfl rfl ?_
    refine r_getI lk_X1_37 ha dX1_step_31 ?_
    refine r_aload_n dX1_step_34 rfl rfl ?_
    refine r_getI lk_X1_40 ha dX1_step_35 ?_
    refine r_iload_n dX1_step_38 rfl rfl ?_
    refine r_imul dX1_step_39 ?_
    refine r_sipush (v := 1000) dX1_step_40 (by decide) ?_
    refine r_idiv dX1_step_43 (by decide) ?_
    refine r_aload_n dX1_step_44 rfl rfl ?_
    refine r_iconst (v := 0) dX1_step_45 (by decide) ?_
    refine r_iald hb1 (by rw [nb1]; decide) dX1_step_46 ?_
    refine r_imul dX1_step_47 ?_
    refine r_bipush (v := 32) dX1_step_48 (by decide) ?_
    refine r_idiv dX1_step_50 (by decide) ?_
    refine r_iadd dX1_step_51 ?_
    refine r_aload_n dX1_step_52 rfl rfl ?_
    refine r_getI lk_X1_37 ha dX1_step_53 ?_
    refine r_aload_n dX1_step_56 rfl rfl ?_
    refine r_iconst (v := 1) dX1_step_57 (by decide) ?_
    refine r_iald hb1 (by rw [nb1]; decide) dX1_step_58 ?_
    refine r_imul dX1_step_59 ?_
    refine r_bipush (v := 64) dX1_step_60 (by decide) ?_
    refine r_idiv dX1_step_62 (by decide) ?_
    refine r_isub dX1_step_63 ?_
    refine r_aload_n dX1_step_64 rfl rfl ?_
    refine r_iconst (v := 5) dX1_step_65 (by decide) ?_
    refine r_iald hb1 (by rw [nb1]; decide) dX1_step_66 ?_
    refine r_bipush (v := 32) dX1_step_67 (by decide) ?_
    refine r_isub dX1_step_69 ?_
    refine r_iconst (v := 4) dX1_step_70 (by decide) ?_
    refine r_idiv dX1_step_71 (by decide) ?_
    refine r_iadd dX1_step_72 ?_
    refine r_letV hF (fun y5 hF => ?_)
    refine r_istore (ls' := [(4, .int y5), (3, .int x4), (2, .int x3), (1, .ref b1), (0, .ref a)]) dX1_step_73 (by decide) rfl ?_
    refine r_aload_n dX1_step_75 rfl rfl ?_
    refine r_getI lk_X1_40 ha dX1_step_76 ?_
    refine r_aload_n dX1_step_79 rfl rfl ?_
    refine r_getI lk_X1_21 ha dX1_step_80 ?_
    refine r_iadd dX1_step_83 ?_
    refine r_aload_n dX1_step_84 rfl rfl ?_
    refine r_getI lk_X1_40 ha dX1_step_85 ?_
    refine r_aload_n dX1_step_88 rfl rfl ?_
    refine r_iconst (v := 1) dX1_step_89 (by decide) ?_
    refine r_iald hb1 (by rw [nb1]; decide) dX1_step_90 ?_
    refine r_aload_n dX1_step_91 rfl rfl ?_
    refine r_iconst (v := 2) dX1_step_92 (by decide) ?_
    refine r_iald hb1 (by rw [nb1]; decide) dX1_step_93 ?_
    refine r_iload_n dX1_step_94 rfl rfl ?_
    refine r_abs kw_564 kw_565 kw_13 kw_566 ⟨Nat.le_of_ble_eq_true rfl, Nat.le_of_ble_eq_true rfl, Nat.le_of_ble_eq_true rfl, Nat.le_of_ble_eq_true rfl⟩ dX1_step_95 ?_
    refine r_imul dX1_step_98 ?_
    refine r_sipush (v := 1000) dX1_step_99 (by decide) ?_
    refine r_idiv dX1_step_102 (by decide) ?_
    refine r_iadd dX1_step_103 ?_
    refine r_imul dX1_step_104 ?_
    refine r_bipush (v := 64) dX1_step_105 (by decide) ?_
    refine r_idiv dX1_step_107 (by decide) ?_
    refine r_isub dX1_step_108 ?_
    refine r_letV hF (fun y6 hF => ?_)
    refine r_istore (ls' := [(5, .int y6), (4, .int y5), (3, .int x4), (2, .int x3), (1, .ref b1), (0, .ref a)]) dX1_step_109 (by decide) rfl ?_
    refine r_aload_n dX1_step_111 rfl rfl ?_
    refine r_iload dX1_step_112 rfl ?_
    refine r_sipush (v := 9999) dX1_step_114 (by decide) ?_
    refine c_staticN_i (As := [.int y5, .int 9999]) mi_X11_heldTo kw_568 rfl (by simp [nests]) (ok_X11_heldTo hL  (p1 := y5) (p2 := 9999)) rfl rfl (Nat.le_of_ble_eq_true rfl) ⟨Nat.le_of_ble_eq_true rfl, Nat.le_of_ble_eq_true rfl⟩ ⟨Nat.le_of_ble_eq_true rfl, Nat.le_of_ble_eq_true rfl⟩ dX1_step_117 ?_
    refine r_putI lk_X1_37 (Or.inl rfl) ha rfl rfl dX1_step_120 ?_
    refine r_letI hF (fun I7 hF => ?_)
    refine r_aload_n dX1_step_123 rfl rfl ?_
    refine r_aload_n dX1_step_124 rfl rfl ?_
    refine r_getP lk_X1_9 ha q2 dX1_step_125 ?_
    refine r_iload dX1_step_128 rfl ?_
    obtain ⟨g8, hF⟩ := gd hF
    refine vs_X1_62 hL g8 (x := F_V_downTold T c1 y6) rfl rfl rfl (Nat.le_of_ble_eq_true rfl) ⟨Nat.le_of_ble_eq_true rfl, Nat.le_of_ble_eq_true rfl⟩ ⟨Nat.le_of_ble_eq_true rfl, Nat.le_of_ble_eq_true rfl⟩ dX1_step_130 ?_
    refine r_sipush (v := 9999) dX1_step_133 (by decide) ?_
    refine c_staticN_i (As := [.int (F_V_downTold T c1 y6), .int 9999]) mi_X11_heldTo kw_568 rfl (by simp [nests]) (ok_X11_heldTo hL  (p1 := (F_V_downTold T c1 y6)) (p2 := 9999)) rfl rfl (Nat.le_of_ble_eq_true rfl) ⟨Nat.le_of_ble_eq_true rfl, Nat.le_of_ble_eq_true rfl⟩ ⟨Nat.le_of_ble_eq_true rfl, Nat.le_of_ble_eq_true rfl⟩ dX1_step_136 ?_
    refine r_putI lk_X1_40 (Or.inl rfl) ha rfl rfl dX1_step_139 ?_
    refine r_letI hF (fun I9 hF => ?_)
    refine r_aload_n dX1_step_142 rfl rfl ?_
    refine r_getI lk_X1_34 ha dX1_step_143 ?_
    refine r_letV hF (fun y10 hF => ?_)
    refine r_istore (ls' := [(6, .int y10), (5, .int y6), (4, .int y5), (3, .int x4), (2, .int x3), (1, .ref b1), (0, .ref a)]) dX1_step_146 (by decide) rfl ?_
    refine r_aload_n dX1_step_148 rfl rfl ?_
    refine r_aload_n dX1_step_149 rfl rfl ?_
    refine r_getP lk_X1_9 ha q2 dX1_step_150 ?_
    refine r_aload_n dX1_step_153 rfl rfl ?_
    refine r_iload_n dX1_step_154 rfl rfl ?_
    refine r_aload_n dX1_step_155 rfl rfl ?_
    obtain ⟨x11, hx11, hF⟩ := bnd hF
    refine vs_X1_65 hL g8 ha hb1 nb1 hx11 rfl rfl (Nat.le_of_ble_eq_true rfl) ⟨Nat.le_of_ble_eq_true rfl, Nat.le_of_ble_eq_true rfl⟩ ⟨Nat.le_of_ble_eq_true rfl, Nat.le_of_ble_eq_true rfl⟩ dX1_step_156 ?_
    refine r_bipush (v := 9) dX1_step_159 (by decide) ?_
    refine c_staticN_i (As := [.int x11, .int 9]) mi_X11_heldTo kw_568 rfl (by simp [nests]) (ok_X11_heldTo hL  (p1 := x11) (p2 := 9)) rfl rfl (Nat.le_of_ble_eq_true rfl) ⟨Nat.le_of_ble_eq_true rfl, Nat.le_of_ble_eq_true rfl⟩ ⟨Nat.le_of_ble_eq_true rfl, Nat.le_of_ble_eq_true rfl⟩ dX1_step_161 ?_
    refine r_putI lk_X1_34 (Or.inl rfl) ha rfl rfl dX1_step_164 ?_
    refine r_letI hF (fun I12 hF => ?_)
    refine r_aload_n dX1_step_167 rfl rfl ?_
    refine r_getI lk_X1_31 ha dX1_step_168 ?_
    refine r_letV hF (fun y13 hF => ?_)
    refine r_istore (ls' := [(7, .int y13), (6, .int y10), (5, .int y6), (4, .int y5), (3, .int x4), (2, .int x3), (1, .ref b1), (0, .ref a)]) dX1_step_171 (by decide) rfl ?_
    refine r_aload_n dX1_step_173 rfl rfl ?_
    refine r_aload_n dX1_step_174 rfl rfl ?_
    refine r_getI lk_X1_31 ha dX1_step_175 ?_
    refine r_aload_n dX1_step_178 rfl rfl ?_
    refine r_getI lk_X1_34 ha dX1_step_179 ?_
    refine r_iadd dX1_step_182 ?_
    refine r_bipush (v := 36) dX1_step_183 (by decide) ?_
    obtain ⟨x14, hx14, hF⟩ := bnd hF
    refine c_static_i (As := [.int ((I12 a 5) + (I12 a 6)), .int 36]) mi_J9_floorMod_7cf53 kw_607 kw_606 (ok_J9_floorMod_7cf53 hL  hx14) rfl rfl (Nat.le_of_ble_eq_true rfl) ⟨Nat.le_of_ble_eq_true rfl, Nat.le_of_ble_eq_true rfl⟩ ⟨Nat.le_of_ble_eq_true rfl, Nat.le_of_ble_eq_true rfl⟩ dX1_step_185 ?_
    refine r_putI lk_X1_31 (Or.inl rfl) ha rfl rfl dX1_step_188 ?_
    refine r_letI hF (fun I15 hF => ?_)
    refine r_aload_n dX1_step_191 rfl rfl ?_
    refine r_dup dX1_step_192 rfl ?_
    refine r_getI lk_X1_25 ha dX1_step_193 ?_
    refine r_aload_n dX1_step_196 rfl rfl ?_
    refine r_getI lk_X1_37 ha dX1_step_197 ?_
    refine r_bipush (v := 8) dX1_step_200 (by decide) ?_
    refine r_idiv dX1_step_202 (by decide) ?_
    refine r_iadd dX1_step_203 ?_
    refine r_putI lk_X1_25 (Or.inl rfl) ha rfl rfl dX1_step_204 ?_
    refine r_letI hF (fun I16 hF => ?_)
    refine r_aload_n dX1_step_207 rfl rfl ?_
    refine r_dup dX1_step_208 rfl ?_
    refine r_getI lk_X1_28 ha dX1_step_209 ?_
    refine r_aload_n dX1_step_212 rfl rfl ?_
    refine r_getI lk_X1_40 ha dX1_step_213 ?_
    refine r_bipush (v := 8) dX1_step_216 (by decide) ?_
    refine r_idiv dX1_step_218 (by decide) ?_
    refine r_isub dX1_step_219 ?_
    refine r_putI lk_X1_28 (Or.inl rfl) ha rfl rfl dX1_step_220 ?_
    refine r_letI hF (fun I17 hF => ?_)
    refine r_aload_n dX1_step_223 rfl rfl ?_
    refine r_iload dX1_step_224 rfl ?_
    obtain ⟨x18, hx18, hF⟩ := bnd hF
    refine c_virt_v (As := [.int y10]) mi_X1_countSwing kw_611 ks_14 kw_609 rfl (by decide) ha (ok_X1_countSwing hL ha hx18) rfl rfl (Nat.le_of_ble_eq_true rfl) ⟨Nat.le_of_ble_eq_true rfl, Nat.le_of_ble_eq_true rfl⟩ ⟨Nat.le_of_ble_eq_true rfl, Nat.le_of_ble_eq_true rfl⟩ dX1_step_226 ?_
    refine r_aload_n dX1_step_229 rfl rfl ?_
    refine r_iload dX1_step_230 rfl ?_
    obtain ⟨x19, hx19, hF⟩ := bnd hF
    refine c_virt_v (As := [.int y13]) mi_X1_countRound kw_615 ks_15 kw_613 rfl (by decide) ha (ok_X1_countRound hL ha hx19) rfl rfl (Nat.le_of_ble_eq_true rfl) ⟨Nat.le_of_ble_eq_true rfl, Nat.le_of_ble_eq_true rfl⟩ ⟨Nat.le_of_ble_eq_true rfl, Nat.le_of_ble_eq_true rfl⟩ dX1_step_232 ?_
    refine r_aload_n dX1_step_235 rfl rfl ?_
    refine r_dup dX1_step_236 rfl ?_
    refine r_getI lk_X1_22 ha dX1_step_237 ?_
    refine r_iconst (v := 1) dX1_step_240 (by decide) ?_
    refine r_iadd dX1_step_241 ?_
    refine r_putI lk_X1_22 (Or.inl rfl) ha rfl rfl dX1_step_242 ?_
    refine r_letI hF (fun I20 hF => ?_)
    obtain rfl := Option.some.inj hF
    exact r_return rfl dX1_step_245 (Nat.le_of_ble_eq_true rfl) (Nat.le_of_ble_eq_true rfl)
def G_X11_tick_31 (N : Nat) (T : TM) (P : PM) (u1 : Int32) : Nat → Int32 → IM → Option (Int32 × IM)
  | 0, _, _ => none
  | n + 1, u2, Iv => (if u1 ≤ u2 then (some (u2, Iv)) else (if (F_X1_landed Iv 69) = 0 then ((F_X1_step T Iv P 69 67).bind (fun x9 => (G_X11_tick_31 N T P u1 n (u2 + 1) x9))) else (some (u2, Iv))))
set_option maxHeartbeats 4000000 in
theorem okG_X11_tick_31 {E : GE} {T : TM} {J : JM} {P : PM} {N : Nat} {u1 : Int32} {x : Int32 × IM} (hL : LOK T P) : ∀ (n : Nat) (u2 : Int32) (Iv : IM), G_X11_tick_31 N T P u1 n u2 Iv = some x → WW E mX11_tick (RM 3 0 0) (ZM E 0 0 (some (.int x.1)) T x.2 J P) 0 0 T Iv J P 31 [(0, .ref 64), (1, .int u1), (2, .int u2)] [] := by
  intro n
  induction n with
  | zero =>
    intro u2 Iv hF
    cases hF
  | succ n ih =>
    intro u2 Iv hF
    rw [G_X11_tick_31] at hF
    refine r_iload_n dX11_tick_31 rfl rfl ?_
    refine r_iload_n dX11_tick_32 rfl rfl ?_
    refine r_icmp_ge (tgt := 72) dX11_tick_33 (by decide) (fun h6 => ?_) (fun h6 => ?_)
    · have hF := tw hF h6
      refine r_iload_n dX11_tick_72 rfl rfl ?_
      obtain rfl := Option.some.inj hF
      exact r_ireturn (x := u2) rfl rfl dX11_tick_73 (Nat.le_of_ble_eq_true rfl) (Nat.le_of_ble_eq_true rfl)
    · have hF := fw hF h6
      refine r_aload_n dX11_tick_36 rfl rfl ?_
      refine r_getP lk_X11_10 (ln_64 hL) (pp_64_0 hL) dX11_tick_37 ?_
      refine r_getP lk_X11_133 (ln_65 hL) (pp_65_4 hL) dX11_tick_40 ?_
      refine c_virt_i (As := []) mi_X1_landed kw_556 kw_557 kw_555 rfl (by decide) (ln_69 hL) (ok_X1_landed hL (ln_69 hL) (a := 69)) rfl rfl (Nat.le_of_ble_eq_true rfl) ⟨Nat.le_of_ble_eq_true rfl, Nat.le_of_ble_eq_true rfl⟩ ⟨Nat.le_of_ble_eq_true rfl, Nat.le_of_ble_eq_true rfl⟩ dX11_tick_43 ?_
      refine r_if_ne (tgt := 72) dX11_tick_46 (by decide) (fun h8 => ?_) (fun h8 => ?_)
      · have hF := fw hF h8
        refine r_iload_n dX11_tick_72 rfl rfl ?_
        obtain rfl := Option.some.inj hF
        exact r_ireturn (x := u2) rfl rfl dX11_tick_73 (Nat.le_of_ble_eq_true rfl) (Nat.le_of_ble_eq_true rfl)
      · have hF := tw hF h8
        refine r_aload_n dX11_tick_49 rfl rfl ?_
        refine r_getP lk_X11_10 (ln_64 hL) (pp_64_0 hL) dX11_tick_50 ?_
        refine r_getP lk_X11_133 (ln_65 hL) (pp_65_4 hL) dX11_tick_53 ?_
        refine r_aload_n dX11_tick_56 rfl rfl ?_
        refine r_getP lk_X11_10 (ln_64 hL) (pp_64_0 hL) dX11_tick_57 ?_
        refine r_getP lk_X11_120 (ln_65 hL) (pp_65_2 hL) dX11_tick_60 ?_
        obtain ⟨x9, hx9, hF⟩ := bnd hF
        refine c_virt_v (As := [.ref 67]) mi_X1_step kw_560 kw_561 kw_559 rfl (by decide) (ln_69 hL) (ok_X1_step hL (ln_69 hL) (ln_67 hL) (nl_67 hL) hx9) rfl rfl (Nat.le_of_ble_eq_true rfl) ⟨Nat.le_of_ble_eq_true rfl, Nat.le_of_ble_eq_true rfl⟩ ⟨Nat.le_of_ble_eq_true rfl, Nat.le_of_ble_eq_true rfl⟩ dX11_tick_63 ?_
        refine r_iinc (v := (u2 + 1)) (ls' := [(2, .int (u2 + 1)), (0, .ref 64), (1, .int u1)]) dX11_tick_66 rfl rfl (by decide) rfl ?_
        refine r_goto (tgt := 31) dX11_tick_69 (by decide) ?_
        refine r_sub (ls' := [(0, .ref 64), (1, .int u1), (2, .int (u2 + 1))]) [1, 2, 0] rfl ?_
        exact ih (u2 + 1) x9 hF
def F_X11_tick (N : Nat) (T : TM) (I : IM) (P : PM) (p1 : Int32) : Option (Int32 × IM) := (if p1 < 0 then (some ((-1), I)) else (if p1 ≤ 400 then (osel (P 69 0) (some ((-4), I)) (fun c3 => (G_X11_tick_31 N T P p1 N 0 I))) else (some ((-1), I))))
set_option maxHeartbeats 4000000 in
theorem ok_X11_tick {E : GE} {T : TM} {I : IM} {J : JM} {P : PM} {p1 : Int32} {N : Nat} {x : Int32 × IM} (hL : LOK T P) (hF : F_X11_tick N T I P p1 = some x) : Ctr E mX11_tick 3 0 0 [.ref 64, .int p1] T I J P (some (.int x.1)) T x.2 J P := by
  unfold F_X11_tick at hF
  refine ctr_intro rfl (by decide +kernel) (Nat.le_of_ble_eq_true rfl) ?_
  refine r_sub (ls' := [(1, .int p1), (0, .ref 64)]) [1, 0] rfl ?_
  refine r_iload_n dX11_tick_0 rfl rfl ?_
  refine r_if_lt (tgt := 11) dX11_tick_1 (by decide) (fun h1 => ?_) (fun h1 => ?_)
  · have hF := tw hF h1
    refine r_iconst (v := (-1)) dX11_tick_11 (by decide) ?_
    obtain rfl := Option.some.inj hF
    exact r_ireturn (x := (-1)) rfl rfl dX11_tick_12 (Nat.le_of_ble_eq_true rfl) (Nat.le_of_ble_eq_true rfl)
  · have hF := fw hF h1
    refine r_iload_n dX11_tick_4 rfl rfl ?_
    refine r_sipush (v := 400) dX11_tick_5 (by decide) ?_
    refine r_icmp_le (tgt := 13) dX11_tick_8 (by decide) (fun h2 => ?_) (fun h2 => ?_)
    · have hF := tw hF h2
      refine r_aload_n dX11_tick_13 rfl rfl ?_
      refine r_getP lk_X11_10 (ln_64 hL) (pp_64_0 hL) dX11_tick_14 ?_
      refine r_getP lk_X11_133 (ln_65 hL) (pp_65_4 hL) dX11_tick_17 ?_
      rcases q4 : (P 69 0) with _ | c3
      · have hF := (osel_n q4).symm.trans hF
        refine r_getN lk_X11_136 (ln_69 hL) q4 dX11_tick_20 ?_
        refine r_ifnonnullN dX11_tick_23 ?_
        refine r_bipush (v := (-4)) dX11_tick_26 (by decide) ?_
        obtain rfl := Option.some.inj hF
        exact r_ireturn (x := (-4)) rfl rfl dX11_tick_28 (Nat.le_of_ble_eq_true rfl) (Nat.le_of_ble_eq_true rfl)
      · have hF := (osel_s q4).symm.trans hF
        refine r_getP lk_X11_136 (ln_69 hL) q4 dX11_tick_20 ?_
        refine r_ifnonnull (tgt := 29) dX11_tick_23 (by decide) ?_
        refine r_iconst (v := 0) dX11_tick_29 (by decide) ?_
        refine r_istore_n (ls' := [(2, .int 0), (1, .int p1), (0, .ref 64)]) dX11_tick_30 rfl (by decide) rfl ?_
        refine r_sub (ls' := [(0, .ref 64), (1, .int p1), (2, .int 0)]) [2, 1, 0] rfl ?_
        exact okG_X11_tick_31 hL   N 0 I hF
    · have hF := fw hF h2
      refine r_iconst (v := (-1)) dX11_tick_11 (by decide) ?_
      obtain rfl := Option.some.inj hF
      exact r_ireturn (x := (-1)) rfl rfl dX11_tick_12 (Nat.le_of_ble_eq_true rfl) (Nat.le_of_ble_eq_true rfl)
def F_X11_air (T : TM) (I : IM) (P : PM) (p1 : Int32) : Option (Int32) := (osel (P 69 0) (some (-2147483648)) (fun c1 => (if p1 = 0 then (if isF T c1 = true then (some (I c1 0)) else none) else (if p1 = 1 then (some (I 69 2)) else (if p1 = 2 then (some (I 69 3)) else (if p1 = 3 then (some (I 69 4)) else (if p1 = 4 then (some (I 69 5)) else (if p1 = 5 then (some (I 69 6)) else (if p1 = 6 then (some (I 69 7)) else (if p1 = 7 then (some (I 69 8)) else (if p1 = 8 then (if (F_X1_landed I 69) = 0 then (some 0) else (some 1)) else (some (-2147483648)))))))))))))
set_option maxHeartbeats 4000000 in
theorem ok_X11_air {E : GE} {T : TM} {I : IM} {J : JM} {P : PM} {p1 : Int32} {x : Int32} (hL : LOK T P) (hF : F_X11_air T I P p1 = some x) : Ctr E mX11_air 1 0 0 [.ref 64, .int p1] T I J P (some (.int x)) T I J P := by
  unfold F_X11_air at hF
  refine ctr_intro rfl (by decide +kernel) (Nat.le_of_ble_eq_true rfl) ?_
  refine r_sub (ls' := [(1, .int p1), (0, .ref 64)]) [1, 0] rfl ?_
  refine r_aload_n dX11_air_0 rfl rfl ?_
  refine r_getP lk_X11_10 (ln_64 hL) (pp_64_0 hL) dX11_air_1 ?_
  refine r_getP lk_X11_133 (ln_65 hL) (pp_65_4 hL) dX11_air_4 ?_
  refine r_astore_n (ls' := [(2, .ref 69), (1, .int p1), (0, .ref 64)]) dX11_air_7 rfl (by decide) rfl ?_
  refine r_aload_n dX11_air_8 rfl rfl ?_
  rcases q2 : (P 69 0) with _ | c1
  · have hF := (osel_n q2).symm.trans hF
    refine r_getN lk_X11_136 (ln_69 hL) q2 dX11_air_9 ?_
    refine r_ifnonnullN dX11_air_12 ?_
    refine r_ldc dX11_air_15 kw_621 ?_
    obtain rfl := Option.some.inj hF
    exact r_ireturn (x := (-2147483648)) rfl rfl dX11_air_17 (Nat.le_of_ble_eq_true rfl) (Nat.le_of_ble_eq_true rfl)
  · have hF := (osel_s q2).symm.trans hF
    refine r_getP lk_X11_136 (ln_69 hL) q2 dX11_air_9 ?_
    refine r_ifnonnull (tgt := 18) dX11_air_12 (by decide) ?_
    refine r_iload_n dX11_air_18 rfl rfl ?_
    by_cases h3 : p1 = 0
    · have hF := tw hF h3
      refine r_tableIn (off := 49) (tgt := 68) dX11_air_19 (by rw [h3]; decide) (by rw [h3]; decide) (by rw [h3]; decide) (by decide) ?_
      refine r_aload_n dX11_air_68 rfl rfl ?_
      refine r_getP lk_X11_136 (ln_69 hL) q2 dX11_air_69 ?_
      obtain ⟨g4, hF⟩ := gd hF
      refine r_getF lf_X11_140 g4 dX11_air_72 ?_
      obtain rfl := Option.some.inj hF
      exact r_ireturn (x := (I c1 0)) rfl rfl dX11_air_75 (Nat.le_of_ble_eq_true rfl) (Nat.le_of_ble_eq_true rfl)
    · have hF := fw hF h3
      by_cases h5 : p1 = 1
      · have hF := tw hF h5
        refine r_tableIn (off := 57) (tgt := 76) dX11_air_19 (by rw [h5]; decide) (by rw [h5]; decide) (by rw [h5]; decide) (by decide) ?_
        refine r_aload_n dX11_air_76 rfl rfl ?_
        refine r_getI lk_X11_156 (ln_69 hL) dX11_air_77 ?_
        obtain rfl := Option.some.inj hF
        exact r_ireturn (x := (I 69 2)) rfl rfl dX11_air_80 (Nat.le_of_ble_eq_true rfl) (Nat.le_of_ble_eq_true rfl)
      · have hF := fw hF h5
        by_cases h6 : p1 = 2
        · have hF := tw hF h6
          refine r_tableIn (off := 62) (tgt := 81) dX11_air_19 (by rw [h6]; decide) (by rw [h6]; decide) (by rw [h6]; decide) (by decide) ?_
          refine r_aload_n dX11_air_81 rfl rfl ?_
          refine r_getI lk_X11_159 (ln_69 hL) dX11_air_82 ?_
          obtain rfl := Option.some.inj hF
          exact r_ireturn (x := (I 69 3)) rfl rfl dX11_air_85 (Nat.le_of_ble_eq_true rfl) (Nat.le_of_ble_eq_true rfl)
        · have hF := fw hF h6
          by_cases h7 : p1 = 3
          · have hF := tw hF h7
            refine r_tableIn (off := 67) (tgt := 86) dX11_air_19 (by rw [h7]; decide) (by rw [h7]; decide) (by rw [h7]; decide) (by decide) ?_
            refine r_aload_n dX11_air_86 rfl rfl ?_
            refine r_getI lk_X11_162 (ln_69 hL) dX11_air_87 ?_
            obtain rfl := Option.some.inj hF
            exact r_ireturn (x := (I 69 4)) rfl rfl dX11_air_90 (Nat.le_of_ble_eq_true rfl) (Nat.le_of_ble_eq_true rfl)
          · have hF := fw hF h7
            by_cases h8 : p1 = 4
            · have hF := tw hF h8
              refine r_tableIn (off := 72) (tgt := 91) dX11_air_19 (by rw [h8]; decide) (by rw [h8]; decide) (by rw [h8]; decide) (by decide) ?_
              refine r_aload_n dX11_air_91 rfl rfl ?_
              refine r_getI lk_X11_165 (ln_69 hL) dX11_air_92 ?_
              obtain rfl := Option.some.inj hF
              exact r_ireturn (x := (I 69 5)) rfl rfl dX11_air_95 (Nat.le_of_ble_eq_true rfl) (Nat.le_of_ble_eq_true rfl)
            · have hF := fw hF h8
              by_cases h9 : p1 = 5
              · have hF := tw hF h9
                refine r_tableIn (off := 77) (tgt := 96) dX11_air_19 (by rw [h9]; decide) (by rw [h9]; decide) (by rw [h9]; decide) (by decide) ?_
                refine r_aload_n dX11_air_96 rfl rfl ?_
                refine r_getI lk_X11_168 (ln_69 hL) dX11_air_97 ?_
                obtain rfl := Option.some.inj hF
                exact r_ireturn (x := (I 69 6)) rfl rfl dX11_air_100 (Nat.le_of_ble_eq_true rfl) (Nat.le_of_ble_eq_true rfl)
              · have hF := fw hF h9
                by_cases h10 : p1 = 6
                · have hF := tw hF h10
                  refine r_tableIn (off := 82) (tgt := 101) dX11_air_19 (by rw [h10]; decide) (by rw [h10]; decide) (by rw [h10]; decide) (by decide) ?_
                  refine r_aload_n dX11_air_101 rfl rfl ?_
                  refine r_getI lk_X11_171 (ln_69 hL) dX11_air_102 ?_
                  obtain rfl := Option.some.inj hF
                  exact r_ireturn (x := (I 69 7)) rfl rfl dX11_air_105 (Nat.le_of_ble_eq_true rfl) (Nat.le_of_ble_eq_true rfl)
                · have hF := fw hF h10
                  by_cases h11 : p1 = 7
                  · have hF := tw hF h11
                    refine r_tableIn (off := 87) (tgt := 106) dX11_air_19 (by rw [h11]; decide) (by rw [h11]; decide) (by rw [h11]; decide) (by decide) ?_
                    refine r_aload_n dX11_air_106 rfl rfl ?_
                    refine r_getI lk_X11_174 (ln_69 hL) dX11_air_107 ?_
                    obtain rfl := Option.some.inj hF
                    exact r_ireturn (x := (I 69 8)) rfl rfl dX11_air_110 (Nat.le_of_ble_eq_true rfl) (Nat.le_of_ble_eq_true rfl)
                  · have hF := fw hF h11
                    by_cases h12 : p1 = 8
                    · have hF := tw hF h12
                      refine r_tableIn (off := 92) (tgt := 111) dX11_air_19 (by rw [h12]; decide) (by rw [h12]; decide) (by rw [h12]; decide) (by decide) ?_
                      refine r_aload_n dX11_air_111 rfl rfl ?_
                      refine c_virt_i (As := []) mi_X1_landed kw_556 kw_557 kw_555 rfl (by decide) (ln_69 hL) (ok_X1_landed hL (ln_69 hL) (a := 69)) rfl rfl (Nat.le_of_ble_eq_true rfl) ⟨Nat.le_of_ble_eq_true rfl, Nat.le_of_ble_eq_true rfl⟩ ⟨Nat.le_of_ble_eq_true rfl, Nat.le_of_ble_eq_true rfl⟩ dX11_air_112 ?_
                      refine r_if_eq (tgt := 122) dX11_air_115 (by decide) (fun h13 => ?_) (fun h13 => ?_)
                      · have hF := tw hF h13
                        refine r_iconst (v := 0) dX11_air_122 (by decide) ?_
                        obtain rfl := Option.some.inj hF
                        exact r_ireturn (x := 0) rfl rfl dX11_air_123 (Nat.le_of_ble_eq_true rfl) (Nat.le_of_ble_eq_true rfl)
                      · have hF := fw hF h13
                        refine r_iconst (v := 1) dX11_air_118 (by decide) ?_
                        refine r_goto (tgt := 123) dX11_air_119 (by decide) ?_
                        obtain rfl := Option.some.inj hF
                        exact r_ireturn (x := 1) rfl rfl dX11_air_123 (Nat.le_of_ble_eq_true rfl) (Nat.le_of_ble_eq_true rfl)
                    · have hF := fw hF h12
                      have eh3 := nei 0 (by decide) h3
                      have eh5 := nei 1 (by decide) h5
                      have eh6 := nei 2 (by decide) h6
                      have eh7 := nei 3 (by decide) h7
                      have eh8 := nei 4 (by decide) h8
                      have eh9 := nei 5 (by decide) h9
                      have eh10 := nei 6 (by decide) h10
                      have eh11 := nei 7 (by decide) h11
                      have eh12 := nei 8 (by decide) h12
                      refine r_tableOut (tgt := 124) dX11_air_19 (by omega) (by decide) ?_
                      refine r_ldc dX11_air_124 kw_621 ?_
                      obtain rfl := Option.some.inj hF
                      exact r_ireturn (x := (-2147483648)) rfl rfl dX11_air_126 (Nat.le_of_ble_eq_true rfl) (Nat.le_of_ble_eq_true rfl)
def F_X11_gust (I : IM) (P : PM) (p1 : Int32) (p2 : Int32) : Option (Int32 × IM) := (if p1 < (-999) then (some ((-1), I)) else (if 999 < p1 then (some ((-1), I)) else (if p2 < (-999) then (some ((-1), I)) else (if p2 ≤ 999 then (osel (P 69 0) (some ((-4), I)) (fun c5 => (if (F_X1_landed I 69) = 0 then (letb (up2 I 69 7 (F_X11_heldTo ((I 69 7) + p1) 9999)) (fun I8 : IM => (letb (up2 I8 69 8 (F_X11_heldTo ((I8 69 8) + p2) 9999)) (fun I9 : IM => (some (1, I9)))))) else (some ((-4), I))))) else (some ((-1), I))))))
set_option maxHeartbeats 4000000 in
theorem ok_X11_gust {E : GE} {T : TM} {I : IM} {J : JM} {P : PM} {p1 : Int32} {p2 : Int32} {x : Int32 × IM} (hL : LOK T P) (hF : F_X11_gust I P p1 p2 = some x) : Ctr E mX11_gust 2 0 0 [.ref 64, .int p1, .int p2] T I J P (some (.int x.1)) T x.2 J P := by
  unfold F_X11_gust at hF
  refine ctr_intro rfl (by decide +kernel) (Nat.le_of_ble_eq_true rfl) ?_
  refine r_sub (ls' := [(2, .int p2), (1, .int p1), (0, .ref 64)]) [2, 1, 0] rfl ?_
  refine r_iload_n dX11_gust_0 rfl rfl ?_
  refine r_sipush (v := (-999)) dX11_gust_1 (by decide) ?_
  refine r_icmp_lt (tgt := 28) dX11_gust_4 (by decide) (fun h1 => ?_) (fun h1 => ?_)
  · have hF := tw hF h1
    refine r_iconst (v := (-1)) dX11_gust_28 (by decide) ?_
    obtain rfl := Option.some.inj hF
    exact r_ireturn (x := (-1)) rfl rfl dX11_gust_29 (Nat.le_of_ble_eq_true rfl) (Nat.le_of_ble_eq_true rfl)
  · have hF := fw hF h1
    refine r_iload_n dX11_gust_7 rfl rfl ?_
    refine r_sipush (v := 999) dX11_gust_8 (by decide) ?_
    refine r_icmp_gt (tgt := 28) dX11_gust_11 (by decide) (fun h2 => ?_) (fun h2 => ?_)
    · have hF := tw hF h2
      refine r_iconst (v := (-1)) dX11_gust_28 (by decide) ?_
      obtain rfl := Option.some.inj hF
      exact r_ireturn (x := (-1)) rfl rfl dX11_gust_29 (Nat.le_of_ble_eq_true rfl) (Nat.le_of_ble_eq_true rfl)
    · have hF := fw hF h2
      refine r_iload_n dX11_gust_14 rfl rfl ?_
      refine r_sipush (v := (-999)) dX11_gust_15 (by decide) ?_
      refine r_icmp_lt (tgt := 28) dX11_gust_18 (by decide) (fun h3 => ?_) (fun h3 => ?_)
      · have hF := tw hF h3
        refine r_iconst (v := (-1)) dX11_gust_28 (by decide) ?_
        obtain rfl := Option.some.inj hF
        exact r_ireturn (x := (-1)) rfl rfl dX11_gust_29 (Nat.le_of_ble_eq_true rfl) (Nat.le_of_ble_eq_true rfl)
      · have hF := fw hF h3
        refine r_iload_n dX11_gust_21 rfl rfl ?_
        refine r_sipush (v := 999) dX11_gust_22 (by decide) ?_
        refine r_icmp_le (tgt := 30) dX11_gust_25 (by decide) (fun h4 => ?_) (fun h4 => ?_)
        · have hF := tw hF h4
          refine r_aload_n dX11_gust_30 rfl rfl ?_
          refine r_getP lk_X11_10 (ln_64 hL) (pp_64_0 hL) dX11_gust_31 ?_
          refine r_getP lk_X11_133 (ln_65 hL) (pp_65_4 hL) dX11_gust_34 ?_
          rcases q6 : (P 69 0) with _ | c5
          · have hF := (osel_n q6).symm.trans hF
            refine r_getN lk_X11_136 (ln_69 hL) q6 dX11_gust_37 ?_
            refine r_ifnullN (tgt := 56) dX11_gust_40 (by decide) ?_
            refine r_bipush (v := (-4)) dX11_gust_56 (by decide) ?_
            obtain rfl := Option.some.inj hF
            exact r_ireturn (x := (-4)) rfl rfl dX11_gust_58 (Nat.le_of_ble_eq_true rfl) (Nat.le_of_ble_eq_true rfl)
          · have hF := (osel_s q6).symm.trans hF
            refine r_getP lk_X11_136 (ln_69 hL) q6 dX11_gust_37 ?_
            refine r_ifnull dX11_gust_40 ?_
            refine r_aload_n dX11_gust_43 rfl rfl ?_
            refine r_getP lk_X11_10 (ln_64 hL) (pp_64_0 hL) dX11_gust_44 ?_
            refine r_getP lk_X11_133 (ln_65 hL) (pp_65_4 hL) dX11_gust_47 ?_
            refine c_virt_i (As := []) mi_X1_landed kw_556 kw_557 kw_555 rfl (by decide) (ln_69 hL) (ok_X1_landed hL (ln_69 hL) (a := 69)) rfl rfl (Nat.le_of_ble_eq_true rfl) ⟨Nat.le_of_ble_eq_true rfl, Nat.le_of_ble_eq_true rfl⟩ ⟨Nat.le_of_ble_eq_true rfl, Nat.le_of_ble_eq_true rfl⟩ dX11_gust_50 ?_
            refine r_if_eq (tgt := 59) dX11_gust_53 (by decide) (fun h7 => ?_) (fun h7 => ?_)
            · have hF := tw hF h7
              refine r_aload_n dX11_gust_59 rfl rfl ?_
              refine r_getP lk_X11_10 (ln_64 hL) (pp_64_0 hL) dX11_gust_60 ?_
              refine r_getP lk_X11_133 (ln_65 hL) (pp_65_4 hL) dX11_gust_63 ?_
              refine r_aload_n dX11_gust_66 rfl rfl ?_
              refine r_getP lk_X11_10 (ln_64 hL) (pp_64_0 hL) dX11_gust_67 ?_
              refine r_getP lk_X11_133 (ln_65 hL) (pp_65_4 hL) dX11_gust_70 ?_
              refine r_getI lk_X11_171 (ln_69 hL) dX11_gust_73 ?_
              refine r_iload_n dX11_gust_76 rfl rfl ?_
              refine r_iadd dX11_gust_77 ?_
              refine r_sipush (v := 9999) dX11_gust_78 (by decide) ?_
              refine c_static_i (As := [.int ((I 69 7) + p1), .int 9999]) mi_X11_heldTo kw_568 kw_626 (ok_X11_heldTo hL  (p1 := ((I 69 7) + p1)) (p2 := 9999)) rfl rfl (Nat.le_of_ble_eq_true rfl) ⟨Nat.le_of_ble_eq_true rfl, Nat.le_of_ble_eq_true rfl⟩ ⟨Nat.le_of_ble_eq_true rfl, Nat.le_of_ble_eq_true rfl⟩ dX11_gust_81 ?_
              refine r_putI lk_X11_171 (Or.inl rfl) (ln_69 hL) rfl rfl dX11_gust_84 ?_
              refine r_letI hF (fun I8 hF => ?_)
              refine r_aload_n dX11_gust_87 rfl rfl ?_
              refine r_getP lk_X11_10 (ln_64 hL) (pp_64_0 hL) dX11_gust_88 ?_
              refine r_getP lk_X11_133 (ln_65 hL) (pp_65_4 hL) dX11_gust_91 ?_
              refine r_aload_n dX11_gust_94 rfl rfl ?_
              refine r_getP lk_X11_10 (ln_64 hL) (pp_64_0 hL) dX11_gust_95 ?_
              refine r_getP lk_X11_133 (ln_65 hL) (pp_65_4 hL) dX11_gust_98 ?_
              refine r_getI lk_X11_174 (ln_69 hL) dX11_gust_101 ?_
              refine r_iload_n dX11_gust_104 rfl rfl ?_
              refine r_iadd dX11_gust_105 ?_
              refine r_sipush (v := 9999) dX11_gust_106 (by decide) ?_
              refine c_static_i (As := [.int ((I8 69 8) + p2), .int 9999]) mi_X11_heldTo kw_568 kw_626 (ok_X11_heldTo hL  (p1 := ((I8 69 8) + p2)) (p2 := 9999)) rfl rfl (Nat.le_of_ble_eq_true rfl) ⟨Nat.le_of_ble_eq_true rfl, Nat.le_of_ble_eq_true rfl⟩ ⟨Nat.le_of_ble_eq_true rfl, Nat.le_of_ble_eq_true rfl⟩ dX11_gust_109 ?_
              refine r_putI lk_X11_174 (Or.inl rfl) (ln_69 hL) rfl rfl dX11_gust_112 ?_
              refine r_letI hF (fun I9 hF => ?_)
              refine r_iconst (v := 1) dX11_gust_115 (by decide) ?_
              obtain rfl := Option.some.inj hF
              exact r_ireturn (x := 1) rfl rfl dX11_gust_116 (Nat.le_of_ble_eq_true rfl) (Nat.le_of_ble_eq_true rfl)
            · have hF := fw hF h7
              refine r_bipush (v := (-4)) dX11_gust_56 (by decide) ?_
              obtain rfl := Option.some.inj hF
              exact r_ireturn (x := (-4)) rfl rfl dX11_gust_58 (Nat.le_of_ble_eq_true rfl) (Nat.le_of_ble_eq_true rfl)
        · have hF := fw hF h4
          refine r_iconst (v := (-1)) dX11_gust_28 (by decide) ?_
          obtain rfl := Option.some.inj hF
          exact r_ireturn (x := (-1)) rfl rfl dX11_gust_29 (Nat.le_of_ble_eq_true rfl) (Nat.le_of_ble_eq_true rfl)
def G_X1_runOut_2 (N : Nat) (T : TM) (P : PM) (a : Nat) (b1 : Nat) : Nat → Int32 → IM → Option (Int32 × IM)
  | 0, _, _ => none
  | n + 1, u2, Iv => (if 400 ≤ u2 then (some ((F_X1_landed Iv a), Iv)) else (if (F_X1_landed Iv a) = 0 then ((F_X1_step T Iv P a b1).bind (fun x5 => (G_X1_runOut_2 N T P a b1 n (u2 + 1) x5))) else (some ((F_X1_landed Iv a), Iv))))
set_option maxHeartbeats 4000000 in
theorem okG_X1_runOut_2 {E : GE} {T : TM} {J : JM} {P : PM} {a : Nat} {b1 : Nat} {N : Nat} {x : Int32 × IM} (hL : LOK T P) (ha : IS T a 1) (hb1 : IS T b1 13) (nb1 : T.2.2 b1 = 6) : ∀ (n : Nat) (u2 : Int32) (Iv : IM), G_X1_runOut_2 N T P a b1 n u2 Iv = some x → WW E mX1_runOut (RM 3 0 0) (ZM E 0 0 (some (.int x.1)) T x.2 J P) 0 0 T Iv J P 2 [(0, .ref a), (1, .ref b1), (2, .int u2)] [] := by
  intro n
  induction n with
  | zero =>
    intro u2 Iv hF
    cases hF
  | succ n ih =>
    intro u2 Iv hF
    rw [G_X1_runOut_2] at hF
    refine r_iload_n dX1_runOut_2 rfl rfl ?_
    refine r_sipush (v := 400) dX1_runOut_3 (by decide) ?_
    refine r_icmp_ge (tgt := 27) dX1_runOut_6 (by decide) (fun h2 => ?_) (fun h2 => ?_)
    · have hF := tw hF h2
      refine r_aload_n dX1_runOut_27 rfl rfl ?_
      refine c_virt_i (As := []) mi_X1_landed kw_556 kw_557 kw_635 rfl (by decide) ha (ok_X1_landed hL ha (a := a)) rfl rfl (Nat.le_of_ble_eq_true rfl) ⟨Nat.le_of_ble_eq_true rfl, Nat.le_of_ble_eq_true rfl⟩ ⟨Nat.le_of_ble_eq_true rfl, Nat.le_of_ble_eq_true rfl⟩ dX1_runOut_28 ?_
      obtain rfl := Option.some.inj hF
      exact r_ireturn (x := (F_X1_landed Iv a)) rfl (nz_X1_landed Iv a) dX1_runOut_31 (Nat.le_of_ble_eq_true rfl) (Nat.le_of_ble_eq_true rfl)
    · have hF := fw hF h2
      refine r_aload_n dX1_runOut_9 rfl rfl ?_
      refine c_virt_i (As := []) mi_X1_landed kw_556 kw_557 kw_635 rfl (by decide) ha (ok_X1_landed hL ha (a := a)) rfl rfl (Nat.le_of_ble_eq_true rfl) ⟨Nat.le_of_ble_eq_true rfl, Nat.le_of_ble_eq_true rfl⟩ ⟨Nat.le_of_ble_eq_true rfl, Nat.le_of_ble_eq_true rfl⟩ dX1_runOut_10 ?_
      refine r_if_ne (tgt := 27) dX1_runOut_13 (by decide) (fun h4 => ?_) (fun h4 => ?_)
      · have hF := fw hF h4
        refine r_aload_n dX1_runOut_27 rfl rfl ?_
        refine c_virt_i (As := []) mi_X1_landed kw_556 kw_557 kw_635 rfl (by decide) ha (ok_X1_landed hL ha (a := a)) rfl rfl (Nat.le_of_ble_eq_true rfl) ⟨Nat.le_of_ble_eq_true rfl, Nat.le_of_ble_eq_true rfl⟩ ⟨Nat.le_of_ble_eq_true rfl, Nat.le_of_ble_eq_true rfl⟩ dX1_runOut_28 ?_
        obtain rfl := Option.some.inj hF
        exact r_ireturn (x := (F_X1_landed Iv a)) rfl (nz_X1_landed Iv a) dX1_runOut_31 (Nat.le_of_ble_eq_true rfl) (Nat.le_of_ble_eq_true rfl)
      · have hF := tw hF h4
        refine r_aload_n dX1_runOut_16 rfl rfl ?_
        refine r_aload_n dX1_runOut_17 rfl rfl ?_
        obtain ⟨x5, hx5, hF⟩ := bnd hF
        refine c_virt_v (As := [.ref b1]) mi_X1_step kw_560 kw_561 kw_636 rfl (by decide) ha (ok_X1_step hL ha hb1 nb1 hx5) rfl rfl (Nat.le_of_ble_eq_true rfl) ⟨Nat.le_of_ble_eq_true rfl, Nat.le_of_ble_eq_true rfl⟩ ⟨Nat.le_of_ble_eq_true rfl, Nat.le_of_ble_eq_true rfl⟩ dX1_runOut_18 ?_
        refine r_iinc (v := (u2 + 1)) (ls' := [(2, .int (u2 + 1)), (0, .ref a), (1, .ref b1)]) dX1_runOut_21 rfl rfl (by decide) rfl ?_
        refine r_goto (tgt := 2) dX1_runOut_24 (by decide) ?_
        refine r_sub (ls' := [(0, .ref a), (1, .ref b1), (2, .int (u2 + 1))]) [1, 2, 0] rfl ?_
        exact ih (u2 + 1) x5 hF
def F_X1_runOut (N : Nat) (T : TM) (I : IM) (P : PM) (a : Nat) (b1 : Nat) : Option (Int32 × IM) := (G_X1_runOut_2 N T P a b1 N 0 I)
set_option maxHeartbeats 4000000 in
theorem ok_X1_runOut {E : GE} {T : TM} {I : IM} {J : JM} {P : PM} {a : Nat} {b1 : Nat} {N : Nat} {x : Int32 × IM} (hL : LOK T P) (ha : IS T a 1) (hb1 : IS T b1 13) (nb1 : T.2.2 b1 = 6) (hF : F_X1_runOut N T I P a b1 = some x) : Ctr E mX1_runOut 3 0 0 [.ref a, .ref b1] T I J P (some (.int x.1)) T x.2 J P := by
  unfold F_X1_runOut at hF
  refine ctr_intro rfl (by decide +kernel) (Nat.le_of_ble_eq_true rfl) ?_
  refine r_sub (ls' := [(1, .ref b1), (0, .ref a)]) [1, 0] rfl ?_
  refine r_iconst (v := 0) dX1_runOut_0 (by decide) ?_
  refine r_istore_n (ls' := [(2, .int 0), (1, .ref b1), (0, .ref a)]) dX1_runOut_1 rfl (by decide) rfl ?_
  refine r_sub (ls' := [(0, .ref a), (1, .ref b1), (2, .int 0)]) [2, 1, 0] rfl ?_
  exact okG_X1_runOut_2 hL ha hb1 nb1  N 0 I hF
def F_X1_sort (I : IM) (a : Nat) : Int32 := (letb (if (I a 9) ≤ 0 then 0 else 1) (fun y2 : Int32 => (letb (if (I a 10) ≤ 0 then 0 else 2) (fun y4 : Int32 => (y2 + y4)))))
set_option maxHeartbeats 4000000 in
theorem ok_X1_sort {E : GE} {T : TM} {I : IM} {J : JM} {P : PM} {a : Nat} (hL : LOK T P) (ha : IS T a 1) : Ctr E mX1_sort 0 0 0 [.ref a] T I J P (some (.int (F_X1_sort I a))) T I J P := by
  generalize hF : F_X1_sort I a = r
  unfold F_X1_sort at hF
  refine ctr_intro rfl (by decide +kernel) (Nat.le_of_ble_eq_true rfl) ?_
  refine r_sub (ls' := [(0, .ref a)]) [0] rfl ?_
  refine r_aload_n dX1_sort_0 rfl rfl ?_
  refine r_getI lk_X1_43 ha dX1_sort_1 ?_
  refine r_joinB (G1 := fun y2 : Int32 => WW E mX1_sort (RM 0 0 0) (ZM E 0 0 (some (.int r)) T I J P) 0 0 T I J P 12 [(0, .ref a)] [.int y2]) hF (fun y2 ny2 hF => ?_) (fun y2 hv hJ => ?_)
  · refine r_aload_n dX1_sort_12 rfl rfl ?_
    refine r_getI lk_X1_46 ha dX1_sort_13 ?_
    refine r_join (G1 := fun y4 : Int32 => WW E mX1_sort (RM 0 0 0) (ZM E 0 0 (some (.int r)) T I J P) 0 0 T I J P 24 [(0, .ref a)] [.int y4, .int y2]) hF (fun y4 hF => ?_) (fun y4 hv hJ => ?_)
    · refine r_iadd dX1_sort_24 ?_
      obtain rfl := hF
      exact r_ireturn (x := (y2 + y4)) rfl rfl dX1_sort_25 (Nat.le_of_ble_eq_true rfl) (Nat.le_of_ble_eq_true rfl)
    · refine r_if_le (tgt := 23) dX1_sort_16 (by decide) (fun h3 => ?_) (fun h3 => ?_)
      · have hv := tw hv h3
        refine r_iconst (v := 0) dX1_sort_23 (by decide) ?_
        obtain rfl := hv
        exact hJ
      · have hv := fw hv h3
        refine r_iconst (v := 2) dX1_sort_19 (by decide) ?_
        refine r_goto (tgt := 24) dX1_sort_20 (by decide) ?_
        obtain rfl := hv
        exact hJ
  · refine r_if_le (tgt := 11) dX1_sort_4 (by decide) (fun h1 => ?_) (fun h1 => ?_)
    · have hv := tw hv h1
      refine r_iconst (v := 0) dX1_sort_11 (by decide) ?_
      obtain rfl := hv
      exact hJ (by first | exact nbz0 | exact nbz1)
    · have hv := fw hv h1
      refine r_iconst (v := 1) dX1_sort_7 (by decide) ?_
      refine r_goto (tgt := 12) dX1_sort_8 (by decide) ?_
      obtain rfl := hv
      exact hJ (by first | exact nbz0 | exact nbz1)
def F_J9_floorDiv_7cf53 (p1 : Int32) (p2 : Int32) : Option (Int32) := (if ¬ p2 = 0 then (letb (p1 / p2) (fun y2 : Int32 => (if 0 ≤ (p1 ^^^ p2) then (some y2) else (if (y2 * p2) = p1 then (some y2) else (some (y2 - 1)))))) else none)
set_option maxHeartbeats 4000000 in
theorem ok_J9_floorDiv_7cf53 {E : GE} {T : TM} {I : IM} {J : JM} {P : PM} {p1 : Int32} {p2 : Int32} {x : Int32} (hL : LOK T P) (hF : F_J9_floorDiv_7cf53 p1 p2 = some x) : Ctr E mJ9_floorDiv_7cf53 0 0 0 [.int p1, .int p2] T I J P (some (.int x)) T I J P := by
  unfold F_J9_floorDiv_7cf53 at hF
  refine ctr_introF rfl (by decide +kernel) (Nat.le_of_ble_eq_true rfl) ?_
  refine r_sub (ls' := [(1, .int p2), (0, .int p1)]) [1, 0] rfl ?_
  refine r_iload_n dJ9_floorDiv_7cf53_0 rfl rfl ?_
  refine r_iload_n dJ9_floorDiv_7cf53_1 rfl rfl ?_
  obtain ⟨g1, hF⟩ := gd hF
  refine r_idiv dJ9_floorDiv_7cf53_2 g1 ?_
  refine r_letV hF (fun y2 hF => ?_)
  refine r_istore_n (ls' := [(2, .int y2), (1, .int p2), (0, .int p1)]) dJ9_floorDiv_7cf53_3 rfl (by decide) rfl ?_
  refine r_iload_n dJ9_floorDiv_7cf53_4 rfl rfl ?_
  refine r_iload_n dJ9_floorDiv_7cf53_5 rfl rfl ?_
  refine r_ixor dJ9_floorDiv_7cf53_6 ?_
  refine r_if_ge (tgt := 21) dJ9_floorDiv_7cf53_7 (by decide) (fun h3 => ?_) (fun h3 => ?_)
  · have hF := tw hF h3
    refine r_iload_n dJ9_floorDiv_7cf53_21 rfl rfl ?_
    obtain rfl := Option.some.inj hF
    exact r_ireturn (x := y2) rfl rfl dJ9_floorDiv_7cf53_22 (Nat.le_of_ble_eq_true rfl) (Nat.le_of_ble_eq_true rfl)
  · have hF := fw hF h3
    refine r_iload_n dJ9_floorDiv_7cf53_10 rfl rfl ?_
    refine r_iload_n dJ9_floorDiv_7cf53_11 rfl rfl ?_
    refine r_imul dJ9_floorDiv_7cf53_12 ?_
    refine r_iload_n dJ9_floorDiv_7cf53_13 rfl rfl ?_
    refine r_icmp_eq (tgt := 21) dJ9_floorDiv_7cf53_14 (by decide) (fun h4 => ?_) (fun h4 => ?_)
    · have hF := tw hF h4
      refine r_iload_n dJ9_floorDiv_7cf53_21 rfl rfl ?_
      obtain rfl := Option.some.inj hF
      exact r_ireturn (x := y2) rfl rfl dJ9_floorDiv_7cf53_22 (Nat.le_of_ble_eq_true rfl) (Nat.le_of_ble_eq_true rfl)
    · have hF := fw hF h4
      refine r_iload_n dJ9_floorDiv_7cf53_17 rfl rfl ?_
      refine r_iconst (v := 1) dJ9_floorDiv_7cf53_18 (by decide) ?_
      refine r_isub dJ9_floorDiv_7cf53_19 ?_
      obtain rfl := Option.some.inj hF
      exact r_ireturn (x := (y2 - 1)) rfl rfl dJ9_floorDiv_7cf53_20 (Nat.le_of_ble_eq_true rfl) (Nat.le_of_ble_eq_true rfl)
def F_X1_square (I : IM) (a : Nat) : Option (Int32) := ((F_J9_floorDiv_7cf53 (I a 3) 100).bind (fun x1 => (some x1)))
set_option maxHeartbeats 4000000 in
theorem ok_X1_square {E : GE} {T : TM} {I : IM} {J : JM} {P : PM} {a : Nat} {x : Int32} (hL : LOK T P) (ha : IS T a 1) (hF : F_X1_square I a = some x) : Ctr E mX1_square 1 0 0 [.ref a] T I J P (some (.int x)) T I J P := by
  unfold F_X1_square at hF
  refine ctr_intro rfl (by decide +kernel) (Nat.le_of_ble_eq_true rfl) ?_
  refine r_sub (ls' := [(0, .ref a)]) [0] rfl ?_
  refine r_aload_n dX1_square_0 rfl rfl ?_
  refine r_getI lk_X1_25 ha dX1_square_1 ?_
  refine r_bipush (v := 100) dX1_square_4 (by decide) ?_
  obtain ⟨x1, hx1, hF⟩ := bnd hF
  refine c_static_i (As := [.int (I a 3), .int 100]) mi_J9_floorDiv_7cf53 kw_646 kw_645 (ok_J9_floorDiv_7cf53 hL  hx1) rfl rfl (Nat.le_of_ble_eq_true rfl) ⟨Nat.le_of_ble_eq_true rfl, Nat.le_of_ble_eq_true rfl⟩ ⟨Nat.le_of_ble_eq_true rfl, Nat.le_of_ble_eq_true rfl⟩ dX1_square_6 ?_
  obtain rfl := Option.some.inj hF
  exact r_ireturn (x := x1) rfl rfl dX1_square_9 (Nat.le_of_ble_eq_true rfl) (Nat.le_of_ble_eq_true rfl)
