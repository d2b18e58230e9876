def F_X12_air (I : IM) (p1 : Int32) : Option (Int32) := (if (I 106 0) < 0 then (some (-2147483648)) else (if (F_X12_in p1 0 8) = 0 then (some (-2147483648)) else (if 8 ≤ p1 then (if 0 < (I 106 3) then (some 0) else (some 1)) else (if inb p1 8 = true then (some (I 106 p1.toNatClampNeg)) else none))))
set_option maxHeartbeats 4000000 in
theorem ok_X12_air {E : GE} {T : TM} {I : IM} {J : JM} {P : PM} {p1 : Int32} {x : Int32} (hL : LOK T P) (hF : F_X12_air I p1 = some x) : Ctr E mX12_air 1 0 0 [.ref 101, .int p1] T I J P (some (.int x)) T I J P := by
  unfold F_X12_air at hF
  refine ctr_intro rfl (by decide) (Nat.le_of_ble_eq_true rfl) ?_
  refine r_sub (ls' := [(1, .int p1), (0, .ref 101)]) [1, 0] rfl ?_
  refine r_aload_n dX12_air_0 rfl rfl ?_
  refine r_getP lk_X12_26 (ln_101 hL) (pp_101_6 hL) dX12_air_1 ?_
  refine r_iconst (v := 0) dX12_air_4 (by decide) ?_
  refine r_iald (ln_106 hL) (by rw [(nl_106 hL)]; decide) dX12_air_5 ?_
  refine r_if_lt (tgt := 19) dX12_air_6 (by decide) (fun h1 => ?_) (fun h1 => ?_)
  · have hF := tw hF h1
    refine r_ldcw dX12_air_19 kw_1259 ?_
    obtain rfl := Option.some.inj hF
    exact r_ireturn rfl rfl dX12_air_22 (Nat.le_of_ble_eq_true rfl) (Nat.le_of_ble_eq_true rfl)
  · have hF := fw hF h1
    refine r_iload_n dX12_air_9 rfl rfl ?_
    refine r_iconst (v := 0) dX12_air_10 (by decide) ?_
    refine r_bipush (v := 8) dX12_air_11 (by decide) ?_
    refine c_static_i (As := [.int p1, .int 0, .int 8]) mi_X12_in kw_1085 kw_1084 (ok_X12_in hL  (p1 := p1) (p2 := 0) (p3 := 8)) rfl rfl (Nat.le_of_ble_eq_true rfl) ⟨Nat.le_of_ble_eq_true rfl, Nat.le_of_ble_eq_true rfl⟩ ⟨Nat.le_of_ble_eq_true rfl, Nat.le_of_ble_eq_true rfl⟩ dX12_air_13 ?_
    refine r_if_ne (tgt := 23) dX12_air_16 (by decide) (fun h2 => ?_) (fun h2 => ?_)
    · have hF := fw hF h2
      refine r_iload_n dX12_air_23 rfl rfl ?_
      refine r_bipush (v := 8) dX12_air_24 (by decide) ?_
      refine r_icmp_ge (tgt := 38) dX12_air_26 (by decide) (fun h3 => ?_) (fun h3 => ?_)
      · have hF := tw hF h3
        refine r_aload_n dX12_air_38 rfl rfl ?_
        refine r_getP lk_X12_26 (ln_101 hL) (pp_101_6 hL) dX12_air_39 ?_
        refine r_iconst (v := 3) dX12_air_42 (by decide) ?_
        refine r_iald (ln_106 hL) (by rw [(nl_106 hL)]; decide) dX12_air_43 ?_
        refine r_if_gt (tgt := 51) dX12_air_44 (by decide) (fun h4 => ?_) (fun h4 => ?_)
        · have hF := tw hF h4
          refine r_iconst (v := 0) dX12_air_51 (by decide) ?_
          obtain rfl := Option.some.inj hF
          exact r_ireturn rfl rfl dX12_air_52 (Nat.le_of_ble_eq_true rfl) (Nat.le_of_ble_eq_true rfl)
        · have hF := fw hF h4
          refine r_iconst (v := 1) dX12_air_47 (by decide) ?_
          refine r_goto (tgt := 52) dX12_air_48 (by decide) ?_
          obtain rfl := Option.some.inj hF
          exact r_ireturn rfl rfl dX12_air_52 (Nat.le_of_ble_eq_true rfl) (Nat.le_of_ble_eq_true rfl)
      · have hF := fw hF h3
        refine r_aload_n dX12_air_29 rfl rfl ?_
        refine r_getP lk_X12_26 (ln_101 hL) (pp_101_6 hL) dX12_air_30 ?_
        refine r_iload_n dX12_air_33 rfl rfl ?_
        obtain ⟨g5, hF⟩ := gd hF
        refine r_iald (ln_106 hL) (by rw [(nl_106 hL)]; exact g5) dX12_air_34 ?_
        refine r_goto (tgt := 52) dX12_air_35 (by decide) ?_
        obtain rfl := Option.some.inj hF
        exact r_ireturn rfl rfl dX12_air_52 (Nat.le_of_ble_eq_true rfl) (Nat.le_of_ble_eq_true rfl)
    · have hF := tw hF h2
      refine r_ldcw dX12_air_19 kw_1259 ?_
      obtain rfl := Option.some.inj hF
      exact r_ireturn rfl rfl dX12_air_22 (Nat.le_of_ble_eq_true rfl) (Nat.le_of_ble_eq_true rfl)
def F_X12_gust (I : IM) (p1 : Int32) (p2 : Int32) : Option (Int32 × IM) := (if (F_X12_in p1 (-999) 999) = 0 then (some ((-1), I)) else (if (F_X12_in p2 (-999) 999) = 0 then (some ((-1), I)) else (if (I 106 0) < 0 then (some ((-4), I)) else (if 0 < (I 106 3) then (letb (up2 I 106 6 (F_X12_kept ((I 106 6) + p1) 9999)) (fun I5 : IM => (letb (up2 I5 106 7 (F_X12_kept ((I5 106 7) + p2) 9999)) (fun I6 : IM => (some (1, I6)))))) else (some ((-4), I))))))
set_option maxHeartbeats 4000000 in
theorem ok_X12_gust {E : GE} {T : TM} {I : IM} {J : JM} {P : PM} {p1 : Int32} {p2 : Int32} {x : Int32 × IM} (hL : LOK T P) (hF : F_X12_gust I p1 p2 = some x) : Ctr E mX12_gust 1 0 0 [.ref 101, .int p1, .int p2] T I J P (some (.int x.1)) T x.2 J P := by
  unfold F_X12_gust at hF
  refine ctr_intro rfl (by decide) (Nat.le_of_ble_eq_true rfl) ?_
  refine r_sub (ls' := [(2, .int p2), (1, .int p1), (0, .ref 101)]) [2, 1, 0] rfl ?_
  refine r_iload_n dX12_gust_0 rfl rfl ?_
  refine r_sipush (v := (-999)) dX12_gust_1 (by decide) ?_
  refine r_sipush (v := 999) dX12_gust_4 (by decide) ?_
  refine c_static_i (As := [.int p1, .int (-999), .int 999]) mi_X12_in kw_1085 kw_1084 (ok_X12_in hL  (p1 := p1) (p2 := (-999)) (p3 := 999)) rfl rfl (Nat.le_of_ble_eq_true rfl) ⟨Nat.le_of_ble_eq_true rfl, Nat.le_of_ble_eq_true rfl⟩ ⟨Nat.le_of_ble_eq_true rfl, Nat.le_of_ble_eq_true rfl⟩ dX12_gust_7 ?_
  refine r_if_eq (tgt := 26) dX12_gust_10 (by decide) (fun h1 => ?_) (fun h1 => ?_)
  · have hF := tw hF h1
    refine r_iconst (v := (-1)) dX12_gust_26 (by decide) ?_
    obtain rfl := Option.some.inj hF
    exact r_ireturn rfl rfl dX12_gust_27 (Nat.le_of_ble_eq_true rfl) (Nat.le_of_ble_eq_true rfl)
  · have hF := fw hF h1
    refine r_iload_n dX12_gust_13 rfl rfl ?_
    refine r_sipush (v := (-999)) dX12_gust_14 (by decide) ?_
    refine r_sipush (v := 999) dX12_gust_17 (by decide) ?_
    refine c_static_i (As := [.int p2, .int (-999), .int 999]) mi_X12_in kw_1085 kw_1084 (ok_X12_in hL  (p1 := p2) (p2 := (-999)) (p3 := 999)) rfl rfl (Nat.le_of_ble_eq_true rfl) ⟨Nat.le_of_ble_eq_true rfl, Nat.le_of_ble_eq_true rfl⟩ ⟨Nat.le_of_ble_eq_true rfl, Nat.le_of_ble_eq_true rfl⟩ dX12_gust_20 ?_
    refine r_if_ne (tgt := 28) dX12_gust_23 (by decide) (fun h2 => ?_) (fun h2 => ?_)
    · have hF := fw hF h2
      refine r_aload_n dX12_gust_28 rfl rfl ?_
      refine r_getP lk_X12_26 (ln_101 hL) (pp_101_6 hL) dX12_gust_29 ?_
      refine r_iconst (v := 0) dX12_gust_32 (by decide) ?_
      refine r_iald (ln_106 hL) (by rw [(nl_106 hL)]; decide) dX12_gust_33 ?_
      refine r_if_lt (tgt := 46) dX12_gust_34 (by decide) (fun h3 => ?_) (fun h3 => ?_)
      · have hF := tw hF h3
        refine r_bipush (v := (-4)) dX12_gust_46 (by decide) ?_
        obtain rfl := Option.some.inj hF
        exact r_ireturn rfl rfl dX12_gust_48 (Nat.le_of_ble_eq_true rfl) (Nat.le_of_ble_eq_true rfl)
      · have hF := fw hF h3
        refine r_aload_n dX12_gust_37 rfl rfl ?_
        refine r_getP lk_X12_26 (ln_101 hL) (pp_101_6 hL) dX12_gust_38 ?_
        refine r_iconst (v := 3) dX12_gust_41 (by decide) ?_
        refine r_iald (ln_106 hL) (by rw [(nl_106 hL)]; decide) dX12_gust_42 ?_
        refine r_if_gt (tgt := 49) dX12_gust_43 (by decide) (fun h4 => ?_) (fun h4 => ?_)
        · have hF := tw hF h4
          refine r_aload_n dX12_gust_49 rfl rfl ?_
          refine r_getP lk_X12_26 (ln_101 hL) (pp_101_6 hL) dX12_gust_50 ?_
          refine r_bipush (v := 6) dX12_gust_53 (by decide) ?_
          refine r_aload_n dX12_gust_55 rfl rfl ?_
          refine r_getP lk_X12_26 (ln_101 hL) (pp_101_6 hL) dX12_gust_56 ?_
          refine r_bipush (v := 6) dX12_gust_59 (by decide) ?_
          refine r_iald (ln_106 hL) (by rw [(nl_106 hL)]; decide) dX12_gust_61 ?_
          refine r_iload_n dX12_gust_62 rfl rfl ?_
          refine r_iadd dX12_gust_63 ?_
          refine r_sipush (v := 9999) dX12_gust_64 (by decide) ?_
          refine c_static_i (As := [.int ((I 106 6) + p1), .int 9999]) mi_X12_kept kw_1245 kw_1244 (ok_X12_kept hL  (p1 := ((I 106 6) + p1)) (p2 := 9999)) rfl rfl (Nat.le_of_ble_eq_true rfl) ⟨Nat.le_of_ble_eq_true rfl, Nat.le_of_ble_eq_true rfl⟩ ⟨Nat.le_of_ble_eq_true rfl, Nat.le_of_ble_eq_true rfl⟩ dX12_gust_67 ?_
          refine r_iast (ln_106 hL) (by rw [(nl_106 hL)]; decide) dX12_gust_70 ?_
          refine r_letI hF (fun I5 hF => ?_)
          refine r_aload_n dX12_gust_71 rfl rfl ?_
          refine r_getP lk_X12_26 (ln_101 hL) (pp_101_6 hL) dX12_gust_72 ?_
          refine r_bipush (v := 7) dX12_gust_75 (by decide) ?_
          refine r_aload_n dX12_gust_77 rfl rfl ?_
          refine r_getP lk_X12_26 (ln_101 hL) (pp_101_6 hL) dX12_gust_78 ?_
          refine r_bipush (v := 7) dX12_gust_81 (by decide) ?_
          refine r_iald (ln_106 hL) (by rw [(nl_106 hL)]; decide) dX12_gust_83 ?_
          refine r_iload_n dX12_gust_84 rfl rfl ?_
          refine r_iadd dX12_gust_85 ?_
          refine r_sipush (v := 9999) dX12_gust_86 (by decide) ?_
          refine c_static_i (As := [.int ((I5 106 7) + p2), .int 9999]) mi_X12_kept kw_1245 kw_1244 (ok_X12_kept hL  (p1 := ((I5 106 7) + p2)) (p2 := 9999)) rfl rfl (Nat.le_of_ble_eq_true rfl) ⟨Nat.le_of_ble_eq_true rfl, Nat.le_of_ble_eq_true rfl⟩ ⟨Nat.le_of_ble_eq_true rfl, Nat.le_of_ble_eq_true rfl⟩ dX12_gust_89 ?_
          refine r_iast (ln_106 hL) (by rw [(nl_106 hL)]; decide) dX12_gust_92 ?_
          refine r_letI hF (fun I6 hF => ?_)
          refine r_iconst (v := 1) dX12_gust_93 (by decide) ?_
          obtain rfl := Option.some.inj hF
          exact r_ireturn rfl rfl dX12_gust_94 (Nat.le_of_ble_eq_true rfl) (Nat.le_of_ble_eq_true rfl)
        · have hF := fw hF h4
          refine r_bipush (v := (-4)) dX12_gust_46 (by decide) ?_
          obtain rfl := Option.some.inj hF
          exact r_ireturn rfl rfl dX12_gust_48 (Nat.le_of_ble_eq_true rfl) (Nat.le_of_ble_eq_true rfl)
    · have hF := tw hF h2
      refine r_iconst (v := (-1)) dX12_gust_26 (by decide) ?_
      obtain rfl := Option.some.inj hF
      exact r_ireturn rfl rfl dX12_gust_27 (Nat.le_of_ble_eq_true rfl) (Nat.le_of_ble_eq_true rfl)
def F_X12_sortOf (I : IM) : Int32 := (letb (if (I 101 30) ≤ 0 then 0 else 1) (fun y2 : Int32 => (letb (if (I 101 31) ≤ 0 then 0 else 2) (fun y4 : Int32 => (y2 + y4)))))
set_option maxHeartbeats 4000000 in
theorem ok_X12_sortOf {E : GE} {T : TM} {I : IM} {J : JM} {P : PM} (hL : LOK T P) : Ctr E mX12_sortOf 0 0 0 [.ref 101] T I J P (some (.int (F_X12_sortOf I))) T I J P := by
  generalize hF : F_X12_sortOf I = r
  unfold F_X12_sortOf at hF
  refine ctr_intro rfl (by decide) (Nat.le_of_ble_eq_true rfl) ?_
  refine r_sub (ls' := [(0, .ref 101)]) [0] rfl ?_
  refine r_aload_n dX12_sortOf_0 rfl rfl ?_
  refine r_getI lk_X12_253 (ln_101 hL) dX12_sortOf_1 ?_
  refine r_joinB (G1 := fun y2 : Int32 => WW E mX12_sortOf (RM 0 0 0) (ZM E 0 0 (some (.int r)) T I J P) 0 0 T I J P 12 [(0, .ref 101)] [.int y2]) hF (fun y2 ny2 hF => ?_) (fun y2 hv hJ => ?_)
  · refine r_aload_n dX12_sortOf_12 rfl rfl ?_
    refine r_getI lk_X12_256 (ln_101 hL) dX12_sortOf_13 ?_
    refine r_join (G1 := fun y4 : Int32 => WW E mX12_sortOf (RM 0 0 0) (ZM E 0 0 (some (.int r)) T I J P) 0 0 T I J P 24 [(0, .ref 101)] [.int y4, .int y2]) hF (fun y4 hF => ?_) (fun y4 hv hJ => ?_)
    · refine r_iadd dX12_sortOf_24 ?_
      obtain rfl := hF
      exact r_ireturn rfl rfl dX12_sortOf_25 (Nat.le_of_ble_eq_true rfl) (Nat.le_of_ble_eq_true rfl)
    · refine r_if_le (tgt := 23) dX12_sortOf_16 (by decide) (fun h3 => ?_) (fun h3 => ?_)
      · have hv := tw hv h3
        refine r_iconst (v := 0) dX12_sortOf_23 (by decide) ?_
        obtain rfl := hv
        exact hJ
      · have hv := fw hv h3
        refine r_iconst (v := 2) dX12_sortOf_19 (by decide) ?_
        refine r_goto (tgt := 24) dX12_sortOf_20 (by decide) ?_
        obtain rfl := hv
        exact hJ
  · refine r_if_le (tgt := 11) dX12_sortOf_4 (by decide) (fun h1 => ?_) (fun h1 => ?_)
    · have hv := tw hv h1
      refine r_iconst (v := 0) dX12_sortOf_11 (by decide) ?_
      obtain rfl := hv
      exact hJ (by first | exact nbz0 | exact nbz1)
    · have hv := fw hv h1
      refine r_iconst (v := 1) dX12_sortOf_7 (by decide) ?_
      refine r_goto (tgt := 12) dX12_sortOf_8 (by decide) ?_
      obtain rfl := hv
      exact hJ (by first | exact nbz0 | exact nbz1)
def F_X12_squareOf (I : IM) : Int32 := (if (I 101 24) < 0 then (-((99 - (I 101 24)) / 100)) else ((I 101 24) / 100))
set_option maxHeartbeats 4000000 in
theorem ok_X12_squareOf {E : GE} {T : TM} {I : IM} {J : JM} {P : PM} (hL : LOK T P) : Ctr E mX12_squareOf 0 0 0 [.ref 101] T I J P (some (.int (F_X12_squareOf I))) T I J P := by
  generalize hF : F_X12_squareOf I = r
  unfold F_X12_squareOf at hF
  refine ctr_intro rfl (by decide) (Nat.le_of_ble_eq_true rfl) ?_
  refine r_sub (ls' := [(0, .ref 101)]) [0] rfl ?_
  refine r_aload_n dX12_squareOf_0 rfl rfl ?_
  refine r_getI lk_X12_235 (ln_101 hL) dX12_squareOf_1 ?_
  refine r_if_lt (tgt := 17) dX12_squareOf_4 (by decide) (fun h1 => ?_) (fun h1 => ?_)
  · have hF := tw hF h1
    refine r_bipush (v := 99) dX12_squareOf_17 (by decide) ?_
    refine r_aload_n dX12_squareOf_19 rfl rfl ?_
    refine r_getI lk_X12_235 (ln_101 hL) dX12_squareOf_20 ?_
    refine r_isub dX12_squareOf_23 ?_
    refine r_bipush (v := 100) dX12_squareOf_24 (by decide) ?_
    refine r_idiv dX12_squareOf_26 (by decide) ?_
    refine r_ineg dX12_squareOf_27 ?_
    obtain rfl := hF
    exact r_ireturn rfl rfl dX12_squareOf_28 (Nat.le_of_ble_eq_true rfl) (Nat.le_of_ble_eq_true rfl)
  · have hF := fw hF h1
    refine r_aload_n dX12_squareOf_7 rfl rfl ?_
    refine r_getI lk_X12_235 (ln_101 hL) dX12_squareOf_8 ?_
    refine r_bipush (v := 100) dX12_squareOf_11 (by decide) ?_
    refine r_idiv dX12_squareOf_13 (by decide) ?_
    refine r_goto (tgt := 28) dX12_squareOf_14 (by decide) ?_
    obtain rfl := hF
    exact r_ireturn rfl rfl dX12_squareOf_28 (Nat.le_of_ble_eq_true rfl) (Nat.le_of_ble_eq_true rfl)
def F_X12_fall (N : Nat) (I : IM) (p1 : Int32) (p2 : Int32) (p3 : Int32) (p4 : Int32) (p5 : Int32) : Option (Int32 × IM) := (if (F_X12_isFall I p1 p2 p3 p4) = 0 then (some ((-2147483648), I)) else (if (F_X12_in p5 0 5) = 0 then (some ((-2147483648), I)) else ((F_X12_falls N I p1 p2 p3 p4).bind (fun x3 => (if x3.1 = 0 then (some ((-2147483648), x3.2)) else (if p5 = 0 then (some ((x3.2 101 23), x3.2)) else (if p5 = 1 then (some ((x3.2 101 24), x3.2)) else (if p5 = 2 then (some ((x3.2 101 30), x3.2)) else (if p5 = 3 then (some ((x3.2 101 31), x3.2)) else (if p5 = 4 then (some ((F_X12_sortOf x3.2), x3.2)) else (some ((F_X12_squareOf x3.2), x3.2))))))))))))
set_option maxHeartbeats 4000000 in
theorem ok_X12_fall {E : GE} {T : TM} {I : IM} {J : JM} {P : PM} {p1 : Int32} {p2 : Int32} {p3 : Int32} {p4 : Int32} {p5 : Int32} {N : Nat} {x : Int32 × IM} (hL : LOK T P) (hF : F_X12_fall N I p1 p2 p3 p4 p5 = some x) : Ctr E mX12_fall 6 0 0 [.ref 101, .int p1, .int p2, .int p3, .int p4, .int p5] T I J P (some (.int x.1)) T x.2 J P := by
  unfold F_X12_fall at hF
  refine ctr_intro rfl (by decide) (Nat.le_of_ble_eq_true rfl) ?_
  refine r_sub (ls' := [(5, .int p5), (4, .int p4), (3, .int p3), (2, .int p2), (1, .int p1), (0, .ref 101)]) [5, 4, 3, 2, 1, 0] rfl ?_
  refine r_aload_n dX12_fall_0 rfl rfl ?_
  refine r_iload_n dX12_fall_1 rfl rfl ?_
  refine r_iload_n dX12_fall_2 rfl rfl ?_
  refine r_iload_n dX12_fall_3 rfl rfl ?_
  refine r_iload dX12_fall_4 rfl ?_
  refine c_virt_i (As := [.int p1, .int p2, .int p3, .int p4]) mi_X12_isFall kw_1208 ks_39 kw_1206 rfl (by decide) (ln_101 hL) (ok_X12_isFall hL  (p1 := p1) (p2 := p2) (p3 := p3) (p4 := p4)) rfl rfl (Nat.le_of_ble_eq_true rfl) ⟨Nat.le_of_ble_eq_true rfl, Nat.le_of_ble_eq_true rfl⟩ ⟨Nat.le_of_ble_eq_true rfl, Nat.le_of_ble_eq_true rfl⟩ dX12_fall_6 ?_
  refine r_if_eq (tgt := 34) dX12_fall_9 (by decide) (fun h1 => ?_) (fun h1 => ?_)
  · have hF := tw hF h1
    refine r_ldcw dX12_fall_34 kw_1259 ?_
    obtain rfl := Option.some.inj hF
    exact r_ireturn rfl rfl dX12_fall_37 (Nat.le_of_ble_eq_true rfl) (Nat.le_of_ble_eq_true rfl)
  · have hF := fw hF h1
    refine r_iload dX12_fall_12 rfl ?_
    refine r_iconst (v := 0) dX12_fall_14 (by decide) ?_
    refine r_iconst (v := 5) dX12_fall_15 (by decide) ?_
    refine c_static_i (As := [.int p5, .int 0, .int 5]) mi_X12_in kw_1085 kw_1084 (ok_X12_in hL  (p1 := p5) (p2 := 0) (p3 := 5)) rfl rfl (Nat.le_of_ble_eq_true rfl) ⟨Nat.le_of_ble_eq_true rfl, Nat.le_of_ble_eq_true rfl⟩ ⟨Nat.le_of_ble_eq_true rfl, Nat.le_of_ble_eq_true rfl⟩ dX12_fall_16 ?_
    refine r_if_eq (tgt := 34) dX12_fall_19 (by decide) (fun h2 => ?_) (fun h2 => ?_)
    · have hF := tw hF h2
      refine r_ldcw dX12_fall_34 kw_1259 ?_
      obtain rfl := Option.some.inj hF
      exact r_ireturn rfl rfl dX12_fall_37 (Nat.le_of_ble_eq_true rfl) (Nat.le_of_ble_eq_true rfl)
    · have hF := fw hF h2
      refine r_aload_n dX12_fall_22 rfl rfl ?_
      refine r_iload_n dX12_fall_23 rfl rfl ?_
      refine r_iload_n dX12_fall_24 rfl rfl ?_
      refine r_iload_n dX12_fall_25 rfl rfl ?_
      refine r_iload dX12_fall_26 rfl ?_
      obtain ⟨x3, hx3, hF⟩ := bnd hF
      refine c_virt_i (As := [.int p1, .int p2, .int p3, .int p4]) mi_X12_falls kw_1270 ks_48 kw_1268 rfl (by decide) (ln_101 hL) (ok_X12_falls hL  hx3) rfl rfl (Nat.le_of_ble_eq_true rfl) ⟨Nat.le_of_ble_eq_true rfl, Nat.le_of_ble_eq_true rfl⟩ ⟨Nat.le_of_ble_eq_true rfl, Nat.le_of_ble_eq_true rfl⟩ dX12_fall_28 ?_
      refine r_if_ne (tgt := 38) dX12_fall_31 (by decide) (fun h4 => ?_) (fun h4 => ?_)
      · have hF := fw hF h4
        refine r_iload dX12_fall_38 rfl ?_
        by_cases h5 : p5 = 0
        · have hF := tw hF h5
          refine r_tableIn (off := 36) (tgt := 76) dX12_fall_40 (by rw [h5]; decide) (by rw [h5]; decide) (by rw [h5]; decide) (by decide) ?_
          refine r_aload_n dX12_fall_76 rfl rfl ?_
          refine r_getI lk_X12_232 (ln_101 hL) dX12_fall_77 ?_
          obtain rfl := Option.some.inj hF
          exact r_ireturn rfl rfl dX12_fall_80 (Nat.le_of_ble_eq_true rfl) (Nat.le_of_ble_eq_true rfl)
        · have hF := fw hF h5
          by_cases h6 : p5 = 1
          · have hF := tw hF h6
            refine r_tableIn (off := 41) (tgt := 81) dX12_fall_40 (by rw [h6]; decide) (by rw [h6]; decide) (by rw [h6]; decide) (by decide) ?_
            refine r_aload_n dX12_fall_81 rfl rfl ?_
            refine r_getI lk_X12_235 (ln_101 hL) dX12_fall_82 ?_
            obtain rfl := Option.some.inj hF
            exact r_ireturn rfl rfl dX12_fall_85 (Nat.le_of_ble_eq_true rfl) (Nat.le_of_ble_eq_true rfl)
          · have hF := fw hF h6
            by_cases h7 : p5 = 2
            · have hF := tw hF h7
              refine r_tableIn (off := 46) (tgt := 86) dX12_fall_40 (by rw [h7]; decide) (by rw [h7]; decide) (by rw [h7]; decide) (by decide) ?_
              refine r_aload_n dX12_fall_86 rfl rfl ?_
              refine r_getI lk_X12_253 (ln_101 hL) dX12_fall_87 ?_
              obtain rfl := Option.some.inj hF
              exact r_ireturn rfl rfl dX12_fall_90 (Nat.le_of_ble_eq_true rfl) (Nat.le_of_ble_eq_true rfl)
            · have hF := fw hF h7
              by_cases h8 : p5 = 3
              · have hF := tw hF h8
                refine r_tableIn (off := 51) (tgt := 91) dX12_fall_40 (by rw [h8]; decide) (by rw [h8]; decide) (by rw [h8]; decide) (by decide) ?_
                refine r_aload_n dX12_fall_91 rfl rfl ?_
                refine r_getI lk_X12_256 (ln_101 hL) dX12_fall_92 ?_
                obtain rfl := Option.some.inj hF
                exact r_ireturn rfl rfl dX12_fall_95 (Nat.le_of_ble_eq_true rfl) (Nat.le_of_ble_eq_true rfl)
              · have hF := fw hF h8
                by_cases h9 : p5 = 4
                · have hF := tw hF h9
                  refine r_tableIn (off := 56) (tgt := 96) dX12_fall_40 (by rw [h9]; decide) (by rw [h9]; decide) (by rw [h9]; decide) (by decide) ?_
                  refine r_aload_n dX12_fall_96 rfl rfl ?_
                  refine c_virt_i (As := []) mi_X12_sortOf kw_1274 ks_49 kw_1272 rfl (by decide) (ln_101 hL) (ok_X12_sortOf hL  ) rfl rfl (Nat.le_of_ble_eq_true rfl) ⟨Nat.le_of_ble_eq_true rfl, Nat.le_of_ble_eq_true rfl⟩ ⟨Nat.le_of_ble_eq_true rfl, Nat.le_of_ble_eq_true rfl⟩ dX12_fall_97 ?_
                  obtain rfl := Option.some.inj hF
                  exact r_ireturn rfl rfl dX12_fall_100 (Nat.le_of_ble_eq_true rfl) (Nat.le_of_ble_eq_true rfl)
                · have hF := fw hF h9
                  have eh5 := nei 0 (by decide) h5
                  have eh6 := nei 1 (by decide) h6
                  have eh7 := nei 2 (by decide) h7
                  have eh8 := nei 3 (by decide) h8
                  have eh9 := nei 4 (by decide) h9
                  refine r_tableOut (tgt := 101) dX12_fall_40 (by omega) (by decide) ?_
                  refine r_aload_n dX12_fall_101 rfl rfl ?_
                  refine c_virt_i (As := []) mi_X12_squareOf kw_1278 ks_50 kw_1276 rfl (by decide) (ln_101 hL) (ok_X12_squareOf hL  ) rfl rfl (Nat.le_of_ble_eq_true rfl) ⟨Nat.le_of_ble_eq_true rfl, Nat.le_of_ble_eq_true rfl⟩ ⟨Nat.le_of_ble_eq_true rfl, Nat.le_of_ble_eq_true rfl⟩ dX12_fall_102 ?_
                  obtain rfl := Option.some.inj hF
                  exact r_ireturn rfl rfl dX12_fall_105 (Nat.le_of_ble_eq_true rfl) (Nat.le_of_ble_eq_true rfl)
      · have hF := tw hF h4
        refine r_ldcw dX12_fall_34 kw_1259 ?_
        obtain rfl := Option.some.inj hF
        exact r_ireturn rfl rfl dX12_fall_37 (Nat.le_of_ble_eq_true rfl) (Nat.le_of_ble_eq_true rfl)
def G_X12_line_39 (N : Nat) (u1 : Int32) (u2 : Int32) (u3 : Int32) (u4 : Int32) (u5 : Int32) (u6 : Int32) : Nat → Int32 → Int32 → IM → Option (Int32 × IM)
  | 0, _, _, _ => none
  | n + 1, u7, u8, Iv => (if 100 ≤ u8 then (if inb ((4 * u1) + 1) 24 = true then (letb (up2 Iv 102 ((4 * u1) + 1).toNatClampNeg u6) (fun I7 : IM => (some (u7, I7)))) else none) else (if 0 ≤ u7 then (if inb ((4 * u1) + 1) 24 = true then (letb (up2 Iv 102 ((4 * u1) + 1).toNatClampNeg u6) (fun I11 : IM => (some (u7, I11)))) else none) else (if inb ((4 * u1) + 1) 24 = true then (letb (up2 Iv 102 ((4 * u1) + 1).toNatClampNeg u8) (fun I13 : IM => ((F_X12_falls N I13 u1 u2 u3 u4).bind (fun x14 => (letb (if x14.1 = 0 then (-3) else (if (F_X12_sortOf x14.2) = u5 then u8 else (-3))) (fun y17 : Int32 => (G_X12_line_39 N u1 u2 u3 u4 u5 u6 n y17 (u8 + 1) x14.2))))))) else none)))
set_option maxHeartbeats 4000000 in
theorem okG_X12_line_39 {E : GE} {T : TM} {J : JM} {P : PM} {N : Nat} {u1 : Int32} {u2 : Int32} {u3 : Int32} {u4 : Int32} {u5 : Int32} {u6 : Int32} {x : Int32 × IM} (hL : LOK T P) : ∀ (n : Nat) (u7 : Int32) (u8 : Int32) (Iv : IM), G_X12_line_39 N u1 u2 u3 u4 u5 u6 n u7 u8 Iv = some x → WW E mX12_line (RM 6 0 0) (ZM E 0 0 (some (.int x.1)) T x.2 J P) 0 0 T Iv J P 39 [(0, .ref 101), (1, .int u1), (2, .int u2), (3, .int u3), (4, .int u4), (5, .int u5), (6, .int u6), (7, .int u7), (8, .int u8)] [] := by
  intro n
  induction n with
  | zero =>
    intro u7 u8 Iv hF
    cases hF
  | succ n ih =>
    intro u7 u8 Iv hF
    rw [G_X12_line_39] at hF
    refine r_iload dX12_line_39 rfl ?_
    refine r_bipush (v := 100) dX12_line_41 (by decide) ?_
    refine r_icmp_ge (tgt := 99) dX12_line_43 (by decide) (fun h5 => ?_) (fun h5 => ?_)
    · have hF := tw hF h5
      refine r_aload_n dX12_line_99 rfl rfl ?_
      refine r_getP lk_X12_7 (ln_101 hL) (pp_101_1 hL) dX12_line_100 ?_
      refine r_iconst (v := 4) dX12_line_103 (by decide) ?_
      refine r_iload_n dX12_line_104 rfl rfl ?_
      refine r_imul dX12_line_105 ?_
      refine r_iconst (v := 1) dX12_line_106 (by decide) ?_
      refine r_iadd dX12_line_107 ?_
      refine r_iload dX12_line_108 rfl ?_
      obtain ⟨g6, hF⟩ := gd hF
      refine r_iast (ln_102 hL) (by rw [(nl_102 hL)]; exact g6) dX12_line_110 ?_
      refine r_letI hF (fun I7 hF => ?_)
      refine r_iload dX12_line_111 rfl ?_
      obtain rfl := Option.some.inj hF
      exact r_ireturn rfl rfl dX12_line_113 (Nat.le_of_ble_eq_true rfl) (Nat.le_of_ble_eq_true rfl)
    · have hF := fw hF h5
      refine r_iload dX12_line_46 rfl ?_
      refine r_if_ge (tgt := 99) dX12_line_48 (by decide) (fun h9 => ?_) (fun h9 => ?_)
      · have hF := tw hF h9
        refine r_aload_n dX12_line_99 rfl rfl ?_
        refine r_getP lk_X12_7 (ln_101 hL) (pp_101_1 hL) dX12_line_100 ?_
        refine r_iconst (v := 4) dX12_line_103 (by decide) ?_
        refine r_iload_n dX12_line_104 rfl rfl ?_
        refine r_imul dX12_line_105 ?_
        refine r_iconst (v := 1) dX12_line_106 (by decide) ?_
        refine r_iadd dX12_line_107 ?_
        refine r_iload dX12_line_108 rfl ?_
        obtain ⟨g10, hF⟩ := gd hF
        refine r_iast (ln_102 hL) (by rw [(nl_102 hL)]; exact g10) dX12_line_110 ?_
        refine r_letI hF (fun I11 hF => ?_)
        refine r_iload dX12_line_111 rfl ?_
        obtain rfl := Option.some.inj hF
        exact r_ireturn rfl rfl dX12_line_113 (Nat.le_of_ble_eq_true rfl) (Nat.le_of_ble_eq_true rfl)
      · have hF := fw hF h9
        refine r_aload_n dX12_line_51 rfl rfl ?_
        refine r_getP lk_X12_7 (ln_101 hL) (pp_101_1 hL) dX12_line_52 ?_
        refine r_iconst (v := 4) dX12_line_55 (by decide) ?_
        refine r_iload_n dX12_line_56 rfl rfl ?_
        refine r_imul dX12_line_57 ?_
        refine r_iconst (v := 1) dX12_line_58 (by decide) ?_
        refine r_iadd dX12_line_59 ?_
        refine r_iload dX12_line_60 rfl ?_
        obtain ⟨g12, hF⟩ := gd hF
        refine r_iast (ln_102 hL) (by rw [(nl_102 hL)]; exact g12) dX12_line_62 ?_
        refine r_letI hF (fun I13 hF => ?_)
        refine r_aload_n dX12_line_63 rfl rfl ?_
        refine r_iload_n dX12_line_64 rfl rfl ?_
        refine r_iload_n dX12_line_65 rfl rfl ?_
        refine r_iload_n dX12_line_66 rfl rfl ?_
        refine r_iload dX12_line_67 rfl ?_
        obtain ⟨x14, hx14, hF⟩ := bnd hF
        refine c_virt_i (As := [.int u1, .int u2, .int u3, .int u4]) mi_X12_falls kw_1270 ks_48 kw_1268 rfl (by decide) (ln_101 hL) (ok_X12_falls hL  hx14) rfl rfl (Nat.le_of_ble_eq_true rfl) ⟨Nat.le_of_ble_eq_true rfl, Nat.le_of_ble_eq_true rfl⟩ ⟨Nat.le_of_ble_eq_true rfl, Nat.le_of_ble_eq_true rfl⟩ dX12_line_69 ?_
        refine r_join (G1 := fun y17 : Int32 => WW E mX12_line (RM 6 0 0) (ZM E 0 0 (some (.int x.1)) T x.2 J P) 0 0 T x14.2 J P 91 [(0, .ref 101), (1, .int u1), (2, .int u2), (3, .int u3), (4, .int u4), (5, .int u5), (6, .int u6), (7, .int u7), (8, .int u8)] [.int y17]) hF (fun y17 hF => ?_) (fun y17 hv hJ => ?_)
        · refine r_istore (ls' := [(7, .int y17), (0, .ref 101), (1, .int u1), (2, .int u2), (3, .int u3), (4, .int u4), (5, .int u5), (6, .int u6), (8, .int u8)]) dX12_line_91 (by decide) rfl ?_
          refine r_iinc (v := (u8 + 1)) (ls' := [(8, .int (u8 + 1)), (7, .int y17), (0, .ref 101), (1, .int u1), (2, .int u2), (3, .int u3), (4, .int u4), (5, .int u5), (6, .int u6)]) dX12_line_93 rfl rfl (by decide) rfl ?_
          refine r_goto (tgt := 39) dX12_line_96 (by decide) ?_
          refine r_sub (ls' := [(0, .ref 101), (1, .int u1), (2, .int u2), (3, .int u3), (4, .int u4), (5, .int u5), (6, .int u6), (7, .int y17), (8, .int (u8 + 1))]) [2, 3, 4, 5, 6, 7, 8, 1, 0] rfl ?_
          exact ih y17 (u8 + 1) x14.2 hF
        · refine r_if_eq (tgt := 89) dX12_line_72 (by decide) (fun h15 => ?_) (fun h15 => ?_)
          · have hv := tw hv h15
            refine r_bipush (v := (-3)) dX12_line_89 (by decide) ?_
            obtain rfl := hv
            exact hJ
          · have hv := fw hv h15
            refine r_aload_n dX12_line_75 rfl rfl ?_
            refine c_virt_i (As := []) mi_X12_sortOf kw_1274 ks_49 kw_1272 rfl (by decide) (ln_101 hL) (ok_X12_sortOf hL  ) rfl rfl (Nat.le_of_ble_eq_true rfl) ⟨Nat.le_of_ble_eq_true rfl, Nat.le_of_ble_eq_true rfl⟩ ⟨Nat.le_of_ble_eq_true rfl, Nat.le_of_ble_eq_true rfl⟩ dX12_line_76 ?_
            refine r_iload dX12_line_79 rfl ?_
            refine r_icmp_ne (tgt := 89) dX12_line_81 (by decide) (fun h16 => ?_) (fun h16 => ?_)
            · have hv := fw hv h16
              refine r_bipush (v := (-3)) dX12_line_89 (by decide) ?_
              obtain rfl := hv
              exact hJ
            · have hv := tw hv h16
              refine r_iload dX12_line_84 rfl ?_
              refine r_goto (tgt := 91) dX12_line_86 (by decide) ?_
              obtain rfl := hv
              exact hJ
def F_X12_line (N : Nat) (I : IM) (p1 : Int32) (p2 : Int32) (p3 : Int32) (p4 : Int32) (p5 : Int32) : Option (Int32 × IM) := (if (F_X12_isFall I p1 p2 p3 p4) = 0 then (some ((-1), I)) else (if (F_X12_in p5 0 3) = 0 then (some ((-1), I)) else ((F_X12_its I p1 1).bind (fun x3 => (G_X12_line_39 N p1 p2 p3 p4 p5 x3 N (-3) 1 I)))))
set_option maxHeartbeats 4000000 in
theorem ok_X12_line {E : GE} {T : TM} {I : IM} {J : JM} {P : PM} {p1 : Int32} {p2 : Int32} {p3 : Int32} {p4 : Int32} {p5 : Int32} {N : Nat} {x : Int32 × IM} (hL : LOK T P) (hF : F_X12_line N I p1 p2 p3 p4 p5 = some x) : Ctr E mX12_line 6 0 0 [.ref 101, .int p1, .int p2, .int p3, .int p4, .int p5] T I J P (some (.int x.1)) T x.2 J P := by
  unfold F_X12_line at hF
  refine ctr_intro rfl (by decide) (Nat.le_of_ble_eq_true rfl) ?_
  refine r_sub (ls' := [(5, .int p5), (4, .int p4), (3, .int p3), (2, .int p2), (1, .int p1), (0, .ref 101)]) [5, 4, 3, 2, 1, 0] rfl ?_
  refine r_aload_n dX12_line_0 rfl rfl ?_
  refine r_iload_n dX12_line_1 rfl rfl ?_
  refine r_iload_n dX12_line_2 rfl rfl ?_
  refine r_iload_n dX12_line_3 rfl rfl ?_
  refine r_iload dX12_line_4 rfl ?_
  refine c_virt_i (As := [.int p1, .int p2, .int p3, .int p4]) mi_X12_isFall kw_1208 ks_39 kw_1206 rfl (by decide) (ln_101 hL) (ok_X12_isFall hL  (p1 := p1) (p2 := p2) (p3 := p3) (p4 := p4)) rfl rfl (Nat.le_of_ble_eq_true rfl) ⟨Nat.le_of_ble_eq_true rfl, Nat.le_of_ble_eq_true rfl⟩ ⟨Nat.le_of_ble_eq_true rfl, Nat.le_of_ble_eq_true rfl⟩ dX12_line_6 ?_
  refine r_if_eq (tgt := 22) dX12_line_9 (by decide) (fun h1 => ?_) (fun h1 => ?_)
  · have hF := tw hF h1
    refine r_iconst (v := (-1)) dX12_line_22 (by decide) ?_
    obtain rfl := Option.some.inj hF
    exact r_ireturn rfl rfl dX12_line_23 (Nat.le_of_ble_eq_true rfl) (Nat.le_of_ble_eq_true rfl)
  · have hF := fw hF h1
    refine r_iload dX12_line_12 rfl ?_
    refine r_iconst (v := 0) dX12_line_14 (by decide) ?_
    refine r_iconst (v := 3) dX12_line_15 (by decide) ?_
    refine c_static_i (As := [.int p5, .int 0, .int 3]) mi_X12_in kw_1085 kw_1084 (ok_X12_in hL  (p1 := p5) (p2 := 0) (p3 := 3)) rfl rfl (Nat.le_of_ble_eq_true rfl) ⟨Nat.le_of_ble_eq_true rfl, Nat.le_of_ble_eq_true rfl⟩ ⟨Nat.le_of_ble_eq_true rfl, Nat.le_of_ble_eq_true rfl⟩ dX12_line_16 ?_
    refine r_if_ne (tgt := 24) dX12_line_19 (by decide) (fun h2 => ?_) (fun h2 => ?_)
    · have hF := fw hF h2
      refine r_aload_n dX12_line_24 rfl rfl ?_
      refine r_iload_n dX12_line_25 rfl rfl ?_
      refine r_iconst (v := 1) dX12_line_26 (by decide) ?_
      obtain ⟨x3, hx3, hF⟩ := bnd hF
      refine c_virt_i (As := [.int p1, .int 1]) mi_X12_its kw_1177 ks_36 kw_1175 rfl (by decide) (ln_101 hL) (ok_X12_its hL  hx3) rfl rfl (Nat.le_of_ble_eq_true rfl) ⟨Nat.le_of_ble_eq_true rfl, Nat.le_of_ble_eq_true rfl⟩ ⟨Nat.le_of_ble_eq_true rfl, Nat.le_of_ble_eq_true rfl⟩ dX12_line_27 ?_
      refine r_istore (ls' := [(6, .int x3), (5, .int p5), (4, .int p4), (3, .int p3), (2, .int p2), (1, .int p1), (0, .ref 101)]) dX12_line_30 (by decide) rfl ?_
      refine r_bipush (v := (-3)) dX12_line_32 (by decide) ?_
      refine r_istore (ls' := [(7, .int (-3)), (6, .int x3), (5, .int p5), (4, .int p4), (3, .int p3), (2, .int p2), (1, .int p1), (0, .ref 101)]) dX12_line_34 (by decide) rfl ?_
      refine r_iconst (v := 1) dX12_line_36 (by decide) ?_
      refine r_istore (ls' := [(8, .int 1), (7, .int (-3)), (6, .int x3), (5, .int p5), (4, .int p4), (3, .int p3), (2, .int p2), (1, .int p1), (0, .ref 101)]) dX12_line_37 (by decide) rfl ?_
      refine r_sub (ls' := [(0, .ref 101), (1, .int p1), (2, .int p2), (3, .int p3), (4, .int p4), (5, .int p5), (6, .int x3), (7, .int (-3)), (8, .int 1)]) [8, 7, 6, 5, 4, 3, 2, 1, 0] rfl ?_
      exact okG_X12_line_39 hL   N (-3) 1 I hF
    · have hF := tw hF h2
      refine r_iconst (v := (-1)) dX12_line_22 (by decide) ?_
      obtain rfl := Option.some.inj hF
      exact r_ireturn rfl rfl dX12_line_23 (Nat.le_of_ble_eq_true rfl) (Nat.le_of_ble_eq_true rfl)
def G_X12_films_10 (N : Nat) (b1 : Nat) (lb1 : Nat) : Nat → IM → Option (Int32 × IM)
  | 0, _ => none
  | n + 1, Iv => (if (F_X12_isLanded Iv) = 0 then (if 400 ≤ (Iv 101 23) then (some ((Iv 101 23), Iv)) else ((F_X12_ticksOn Iv).bind (fun x6 => (if inb ((x6 101 23) - 1) lb1 = true then (letb (up2 x6 b1 ((x6 101 23) - 1).toNatClampNeg (x6 101 24)) (fun I8 : IM => (G_X12_films_10 N b1 lb1 n I8))) else none)))) else (some ((Iv 101 23), Iv)))
set_option maxHeartbeats 4000000 in
theorem okG_X12_films_10 {E : GE} {T : TM} {J : JM} {P : PM} {b1 : Nat} {lb1 : Nat} {N : Nat} {x : Int32 × IM} (hL : LOK T P) (hb1 : IS T b1 13) (nb1 : T.2.2 b1 = lb1) : ∀ (n : Nat) (Iv : IM), G_X12_films_10 N b1 lb1 n Iv = some x → WW E mX12_films (RM 5 0 0) (ZM E 0 0 (some (.int x.1)) T x.2 J P) 0 0 T Iv J P 10 [(0, .ref 101), (1, .ref b1)] [] := by
  intro n
  induction n with
  | zero =>
    intro Iv hF
    cases hF
  | succ n ih =>
    intro Iv hF
    rw [G_X12_films_10] at hF
    refine r_aload_n dX12_films_10 rfl rfl ?_
    refine c_virt_i (As := []) mi_X12_isLanded kw_1231 ks_43 kw_1229 rfl (by decide) (ln_101 hL) (ok_X12_isLanded hL  ) rfl rfl (Nat.le_of_ble_eq_true rfl) ⟨Nat.le_of_ble_eq_true rfl, Nat.le_of_ble_eq_true rfl⟩ ⟨Nat.le_of_ble_eq_true rfl, Nat.le_of_ble_eq_true rfl⟩ dX12_films_11 ?_
    refine r_if_ne (tgt := 46) dX12_films_14 (by decide) (fun h3 => ?_) (fun h3 => ?_)
    · have hF := fw hF h3
      refine r_aload_n dX12_films_46 rfl rfl ?_
      refine r_getI lk_X12_232 (ln_101 hL) dX12_films_47 ?_
      obtain rfl := Option.some.inj hF
      exact r_ireturn rfl rfl dX12_films_50 (Nat.le_of_ble_eq_true rfl) (Nat.le_of_ble_eq_true rfl)
    · have hF := tw hF h3
      refine r_aload_n dX12_films_17 rfl rfl ?_
      refine r_getI lk_X12_232 (ln_101 hL) dX12_films_18 ?_
      refine r_sipush (v := 400) dX12_films_21 (by decide) ?_
      refine r_icmp_ge (tgt := 46) dX12_films_24 (by decide) (fun h5 => ?_) (fun h5 => ?_)
      · have hF := tw hF h5
        refine r_aload_n dX12_films_46 rfl rfl ?_
        refine r_getI lk_X12_232 (ln_101 hL) dX12_films_47 ?_
        obtain rfl := Option.some.inj hF
        exact r_ireturn rfl rfl dX12_films_50 (Nat.le_of_ble_eq_true rfl) (Nat.le_of_ble_eq_true rfl)
      · have hF := fw hF h5
        refine r_aload_n dX12_films_27 rfl rfl ?_
        obtain ⟨x6, hx6, hF⟩ := bnd hF
        refine c_virt_v (As := []) mi_X12_ticksOn kw_1235 ks_44 kw_1233 rfl (by decide) (ln_101 hL) (ok_X12_ticksOn hL  hx6) rfl rfl (Nat.le_of_ble_eq_true rfl) ⟨Nat.le_of_ble_eq_true rfl, Nat.le_of_ble_eq_true rfl⟩ ⟨Nat.le_of_ble_eq_true rfl, Nat.le_of_ble_eq_true rfl⟩ dX12_films_28 ?_
        refine r_aload_n dX12_films_31 rfl rfl ?_
        refine r_aload_n dX12_films_32 rfl rfl ?_
        refine r_getI lk_X12_232 (ln_101 hL) dX12_films_33 ?_
        refine r_iconst (v := 1) dX12_films_36 (by decide) ?_
        refine r_isub dX12_films_37 ?_
        refine r_aload_n dX12_films_38 rfl rfl ?_
        refine r_getI lk_X12_235 (ln_101 hL) dX12_films_39 ?_
        obtain ⟨g7, hF⟩ := gd hF
        refine r_iast hb1 (by rw [nb1]; exact g7) dX12_films_42 ?_
        refine r_letI hF (fun I8 hF => ?_)
        refine r_goto (tgt := 10) dX12_films_43 (by decide) ?_
        refine r_sub (ls' := [(0, .ref 101), (1, .ref b1)]) [0, 1] rfl ?_
        exact ih I8 hF
def F_X12_films (N : Nat) (I : IM) (b1 : Nat) (lb1 : Nat) (p2 : Int32) (p3 : Int32) (p4 : Int32) (p5 : Int32) : Option (Int32 × IM) := ((F_X12_lends I p2 p3 p4 p5).bind (fun x1 => (G_X12_films_10 N b1 lb1 N x1)))
set_option maxHeartbeats 4000000 in
theorem ok_X12_films {E : GE} {T : TM} {I : IM} {J : JM} {P : PM} {b1 : Nat} {lb1 : Nat} {p2 : Int32} {p3 : Int32} {p4 : Int32} {p5 : Int32} {N : Nat} {x : Int32 × IM} (hL : LOK T P) (hb1 : IS T b1 13) (nb1 : T.2.2 b1 = lb1) (hF : F_X12_films N I b1 lb1 p2 p3 p4 p5 = some x) : Ctr E mX12_films 5 0 0 [.ref 101, .ref b1, .int p2, .int p3, .int p4, .int p5] T I J P (some (.int x.1)) T x.2 J P := by
  unfold F_X12_films at hF
  refine ctr_intro rfl (by decide) (Nat.le_of_ble_eq_true rfl) ?_
  refine r_sub (ls' := [(5, .int p5), (4, .int p4), (3, .int p3), (2, .int p2), (1, .ref b1), (0, .ref 101)]) [5, 4, 3, 2, 1, 0] rfl ?_
  refine r_aload_n dX12_films_0 rfl rfl ?_
  refine r_iload_n dX12_films_1 rfl rfl ?_
  refine r_iload_n dX12_films_2 rfl rfl ?_
  refine r_iload dX12_films_3 rfl ?_
  refine r_iload dX12_films_5 rfl ?_
  obtain ⟨x1, hx1, hF⟩ := bnd hF
  refine c_virt_v (As := [.int p2, .int p3, .int p4, .int p5]) mi_X12_lends kw_1215 ks_40 kw_1213 rfl (by decide) (ln_101 hL) (ok_X12_lends hL  hx1) rfl rfl (Nat.le_of_ble_eq_true rfl) ⟨Nat.le_of_ble_eq_true rfl, Nat.le_of_ble_eq_true rfl⟩ ⟨Nat.le_of_ble_eq_true rfl, Nat.le_of_ble_eq_true rfl⟩ dX12_films_7 ?_
  refine r_sub (ls' := [(0, .ref 101), (1, .ref b1)]) [5, 4] rfl ?_
  exact okG_X12_films_10 hL hb1 nb1  N x1 hF
def G_X12_parted_64 (N : Nat) (I : IM) (u5 : Int32) (u6 : Int32) (u7 : Int32) : Nat → Int32 → Option (Int32 × IM)
  | 0, _ => none
  | n + 1, u8 => (if u6 ≤ u8 then (some ((-3), I)) else (if u7 ≤ u8 then (some ((-3), I)) else (if inb u8 400 = true then (if inb u8 400 = true then (if (F_X12_bare ((I 111 u8.toNatClampNeg) - (I 112 u8.toNatClampNeg))) ≤ u5 then (G_X12_parted_64 N I u5 u6 u7 n (u8 + 1)) else (some ((u8 + 1), I))) else none) else none)))
set_option maxHeartbeats 4000000 in
theorem okG_X12_parted_64 {E : GE} {T : TM} {I : IM} {J : JM} {P : PM} {N : Nat} {u5 : Int32} {u6 : Int32} {u7 : Int32} {x : Int32 × IM} (hL : LOK T P) : ∀ (n : Nat) (u8 : Int32), G_X12_parted_64 N I u5 u6 u7 n u8 = some x → WW E mX12_parted (RM 6 0 0) (ZM E 0 0 (some (.int x.1)) T x.2 J P) 0 0 T I J P 64 [(0, .ref 101), (5, .int u5), (6, .int u6), (7, .int u7), (8, .int u8)] [] := by
  intro n
  induction n with
  | zero =>
    intro u8 hF
    cases hF
  | succ n ih =>
    intro u8 hF
    rw [G_X12_parted_64] at hF
    refine r_iload dX12_parted_64 rfl ?_
    refine r_iload dX12_parted_66 rfl ?_
    refine r_icmp_ge (tgt := 112) dX12_parted_68 (by decide) (fun h5 => ?_) (fun h5 => ?_)
    · have hF := tw hF h5
      refine r_bipush (v := (-3)) dX12_parted_112 (by decide) ?_
      obtain rfl := Option.some.inj hF
      exact r_ireturn rfl rfl dX12_parted_114 (Nat.le_of_ble_eq_true rfl) (Nat.le_of_ble_eq_true rfl)
    · have hF := fw hF h5
      refine r_iload dX12_parted_71 rfl ?_
      refine r_iload dX12_parted_73 rfl ?_
      refine r_icmp_ge (tgt := 112) dX12_parted_75 (by decide) (fun h6 => ?_) (fun h6 => ?_)
      · have hF := tw hF h6
        refine r_bipush (v := (-3)) dX12_parted_112 (by decide) ?_
        obtain rfl := Option.some.inj hF
        exact r_ireturn rfl rfl dX12_parted_114 (Nat.le_of_ble_eq_true rfl) (Nat.le_of_ble_eq_true rfl)
      · have hF := fw hF h6
        refine r_aload_n dX12_parted_78 rfl rfl ?_
        refine r_getP lk_X12_41 (ln_101 hL) (pp_101_32 hL) dX12_parted_79 ?_
        refine r_iload dX12_parted_82 rfl ?_
        obtain ⟨g7, hF⟩ := gd hF
        refine r_iald (ln_111 hL) (by rw [(nl_111 hL)]; exact g7) dX12_parted_84 ?_
        refine r_aload_n dX12_parted_85 rfl rfl ?_
        refine r_getP lk_X12_44 (ln_101 hL) (pp_101_33 hL) dX12_parted_86 ?_
        refine r_iload dX12_parted_89 rfl ?_
        obtain ⟨g8, hF⟩ := gd hF
        refine r_iald (ln_112 hL) (by rw [(nl_112 hL)]; exact g8) dX12_parted_91 ?_
        refine r_isub dX12_parted_92 ?_
        refine c_static_i (As := [.int ((I 111 u8.toNatClampNeg) - (I 112 u8.toNatClampNeg))]) mi_X12_bare kw_1242 kw_1241 (ok_X12_bare hL  (p1 := ((I 111 u8.toNatClampNeg) - (I 112 u8.toNatClampNeg)))) rfl rfl (Nat.le_of_ble_eq_true rfl) ⟨Nat.le_of_ble_eq_true rfl, Nat.le_of_ble_eq_true rfl⟩ ⟨Nat.le_of_ble_eq_true rfl, Nat.le_of_ble_eq_true rfl⟩ dX12_parted_93 ?_
        refine r_iload dX12_parted_96 rfl ?_
        refine r_icmp_le (tgt := 106) dX12_parted_98 (by decide) (fun h9 => ?_) (fun h9 => ?_)
        · have hF := tw hF h9
          refine r_iinc (v := (u8 + 1)) (ls' := [(8, .int (u8 + 1)), (0, .ref 101), (5, .int u5), (6, .int u6), (7, .int u7)]) dX12_parted_106 rfl rfl (by decide) rfl ?_
          refine r_goto (tgt := 64) dX12_parted_109 (by decide) ?_
          refine r_sub (ls' := [(0, .ref 101), (5, .int u5), (6, .int u6), (7, .int u7), (8, .int (u8 + 1))]) [1, 2, 3, 4, 0] rfl ?_
          exact ih (u8 + 1) hF
        · have hF := fw hF h9
          refine r_iload dX12_parted_101 rfl ?_
          refine r_iconst (v := 1) dX12_parted_103 (by decide) ?_
          refine r_iadd dX12_parted_104 ?_
          obtain rfl := Option.some.inj hF
          exact r_ireturn rfl rfl dX12_parted_105 (Nat.le_of_ble_eq_true rfl) (Nat.le_of_ble_eq_true rfl)
def F_X12_parted (N : Nat) (I : IM) (p1 : Int32) (p2 : Int32) (p3 : Int32) (p4 : Int32) (p5 : Int32) : Option (Int32 × IM) := (if (F_X12_isFall I p1 p2 p3 p4) = 0 then (some ((-1), I)) else (if (F_X12_in p5 0 9999) = 0 then (some ((-1), I)) else ((F_X12_films N I 111 400 p1 p2 p3 p4).bind (fun x3 => ((F_X12_films N x3.2 112 400 p1 p2 ((p3 + 1) - (p3 + 1) / 36 * 36) p4).bind (fun x4 => (G_X12_parted_64 N x4.2 p5 x3.1 x4.1 N 0)))))))
set_option maxHeartbeats 4000000 in
theorem ok_X12_parted {E : GE} {T : TM} {I : IM} {J : JM} {P : PM} {p1 : Int32} {p2 : Int32} {p3 : Int32} {p4 : Int32} {p5 : Int32} {N : Nat} {x : Int32 × IM} (hL : LOK T P) (hF : F_X12_parted N I p1 p2 p3 p4 p5 = some x) : Ctr E mX12_parted 6 0 0 [.ref 101, .int p1, .int p2, .int p3, .int p4, .int p5] T I J P (some (.int x.1)) T x.2 J P := by
  unfold F_X12_parted at hF
  refine ctr_intro rfl (by decide) (Nat.le_of_ble_eq_true rfl) ?_
  refine r_sub (ls' := [(5, .int p5), (4, .int p4), (3, .int p3), (2, .int p2), (1, .int p1), (0, .ref 101)]) [5, 4, 3, 2, 1, 0] rfl ?_
  refine r_aload_n dX12_parted_0 rfl rfl ?_
  refine r_iload_n dX12_parted_1 rfl rfl ?_
  refine r_iload_n dX12_parted_2 rfl rfl ?_
  refine r_iload_n dX12_parted_3 rfl rfl ?_
  refine r_iload dX12_parted_4 rfl ?_
  refine c_virt_i (As := [.int p1, .int p2, .int p3, .int p4]) mi_X12_isFall kw_1208 ks_39 kw_1206 rfl (by decide) (ln_101 hL) (ok_X12_isFall hL  (p1 := p1) (p2 := p2) (p3 := p3) (p4 := p4)) rfl rfl (Nat.le_of_ble_eq_true rfl) ⟨Nat.le_of_ble_eq_true rfl, Nat.le_of_ble_eq_true rfl⟩ ⟨Nat.le_of_ble_eq_true rfl, Nat.le_of_ble_eq_true rfl⟩ dX12_parted_6 ?_
  refine r_if_eq (tgt := 24) dX12_parted_9 (by decide) (fun h1 => ?_) (fun h1 => ?_)
  · have hF := tw hF h1
    refine r_iconst (v := (-1)) dX12_parted_24 (by decide) ?_
    obtain rfl := Option.some.inj hF
    exact r_ireturn rfl rfl dX12_parted_25 (Nat.le_of_ble_eq_true rfl) (Nat.le_of_ble_eq_true rfl)
  · have hF := fw hF h1
    refine r_iload dX12_parted_12 rfl ?_
    refine r_iconst (v := 0) dX12_parted_14 (by decide) ?_
    refine r_sipush (v := 9999) dX12_parted_15 (by decide) ?_
    refine c_static_i (As := [.int p5, .int 0, .int 9999]) mi_X12_in kw_1085 kw_1084 (ok_X12_in hL  (p1 := p5) (p2 := 0) (p3 := 9999)) rfl rfl (Nat.le_of_ble_eq_true rfl) ⟨Nat.le_of_ble_eq_true rfl, Nat.le_of_ble_eq_true rfl⟩ ⟨Nat.le_of_ble_eq_true rfl, Nat.le_of_ble_eq_true rfl⟩ dX12_parted_18 ?_
    refine r_if_ne (tgt := 26) dX12_parted_21 (by decide) (fun h2 => ?_) (fun h2 => ?_)
    · have hF := fw hF h2
      refine r_aload_n dX12_parted_26 rfl rfl ?_
      refine r_aload_n dX12_parted_27 rfl rfl ?_
      refine r_getP lk_X12_41 (ln_101 hL) (pp_101_32 hL) dX12_parted_28 ?_
      refine r_iload_n dX12_parted_31 rfl rfl ?_
      refine r_iload_n dX12_parted_32 rfl rfl ?_
      refine r_iload_n dX12_parted_33 rfl rfl ?_
      refine r_iload dX12_parted_34 rfl ?_
      obtain ⟨x3, hx3, hF⟩ := bnd hF
      refine c_virt_i (As := [.ref 111, .int p1, .int p2, .int p3, .int p4]) mi_X12_films kw_1290 ks_51 kw_1288 rfl (by decide) (ln_101 hL) (ok_X12_films hL (ln_111 hL) (nl_111 hL) hx3) rfl rfl (Nat.le_of_ble_eq_true rfl) ⟨Nat.le_of_ble_eq_true rfl, Nat.le_of_ble_eq_true rfl⟩ ⟨Nat.le_of_ble_eq_true rfl, Nat.le_of_ble_eq_true rfl⟩ dX12_parted_36 ?_
      refine r_istore (ls' := [(6, .int x3.1), (5, .int p5), (4, .int p4), (3, .int p3), (2, .int p2), (1, .int p1), (0, .ref 101)]) dX12_parted_39 (by decide) rfl ?_
      refine r_aload_n dX12_parted_41 rfl rfl ?_
      refine r_aload_n dX12_parted_42 rfl rfl ?_
      refine r_getP lk_X12_44 (ln_101 hL) (pp_101_33 hL) dX12_parted_43 ?_
      refine r_iload_n dX12_parted_46 rfl rfl ?_
      refine r_iload_n dX12_parted_47 rfl rfl ?_
      refine r_iload_n dX12_parted_48 rfl rfl ?_
      refine r_iconst (v := 1) dX12_parted_49 (by decide) ?_
      refine r_iadd dX12_parted_50 ?_
      refine r_bipush (v := 36) dX12_parted_51 (by decide) ?_
      refine r_irem dX12_parted_53 (by decide) ?_
      refine r_iload dX12_parted_54 rfl ?_
      obtain ⟨x4, hx4, hF⟩ := bnd hF
      refine c_virt_i (As := [.ref 112, .int p1, .int p2, .int ((p3 + 1) - (p3 + 1) / 36 * 36), .int p4]) mi_X12_films kw_1290 ks_51 kw_1288 rfl (by decide) (ln_101 hL) (ok_X12_films hL (ln_112 hL) (nl_112 hL) hx4) rfl rfl (Nat.le_of_ble_eq_true rfl) ⟨Nat.le_of_ble_eq_true rfl, Nat.le_of_ble_eq_true rfl⟩ ⟨Nat.le_of_ble_eq_true rfl, Nat.le_of_ble_eq_true rfl⟩ dX12_parted_56 ?_
      refine r_istore (ls' := [(7, .int x4.1), (6, .int x3.1), (5, .int p5), (4, .int p4), (3, .int p3), (2, .int p2), (1, .int p1), (0, .ref 101)]) dX12_parted_59 (by decide) rfl ?_
      refine r_iconst (v := 0) dX12_parted_61 (by decide) ?_
      refine r_istore (ls' := [(8, .int 0), (7, .int x4.1), (6, .int x3.1), (5, .int p5), (4, .int p4), (3, .int p3), (2, .int p2), (1, .int p1), (0, .ref 101)]) dX12_parted_62 (by decide) rfl ?_
      refine r_sub (ls' := [(0, .ref 101), (5, .int p5), (6, .int x3.1), (7, .int x4.1), (8, .int 0)]) [8, 3, 2, 1, 0] rfl ?_
      exact okG_X12_parted_64 hL   N 0 hF
    · have hF := tw hF h2
      refine r_iconst (v := (-1)) dX12_parted_24 (by decide) ?_
      obtain rfl := Option.some.inj hF
      exact r_ireturn rfl rfl dX12_parted_25 (Nat.le_of_ble_eq_true rfl) (Nat.le_of_ble_eq_true rfl)
def G_X12_oftenOn_6 (N : Nat) (u1 : Int32) (u2 : Int32) (u3 : Int32) (u4 : Int32) (u5 : Int32) : Nat → Int32 → Int32 → IM → Option (Int32 × IM)
  | 0, _, _, _ => none
  | n + 1, u6, u7, Iv => (if 5 ≤ u7 then (some (u6, Iv)) else (if inb u7 5 = true then (if (Iv 104 u7.toNatClampNeg) ≤ 0 then (G_X12_oftenOn_6 N u1 u2 u3 u4 u5 n u6 (u7 + 1) Iv) else ((F_X12_falls N Iv u1 u2 (((u3 + u7) + 34) - ((u3 + u7) + 34) / 36 * 36) u4).bind (fun x6 => (if x6.1 = 0 then (G_X12_oftenOn_6 N u1 u2 u3 u4 u5 n u6 (u7 + 1) x6.2) else (if (F_X12_squareOf x6.2) = u5 then (if inb u7 5 = true then (letb (u6 + (x6.2 104 u7.toNatClampNeg)) (fun y13 : Int32 => (G_X12_oftenOn_6 N u1 u2 u3 u4 u5 n y13 (u7 + 1) x6.2))) else none) else (letb (u6 + 0) (fun y11 : Int32 => (G_X12_oftenOn_6 N u1 u2 u3 u4 u5 n y11 (u7 + 1) x6.2)))))))) else none))
set_option maxHeartbeats 4000000 in
theorem okG_X12_oftenOn_6 {E : GE} {T : TM} {J : JM} {P : PM} {N : Nat} {u1 : Int32} {u2 : Int32} {u3 : Int32} {u4 : Int32} {u5 : Int32} {x : Int32 × IM} (hL : LOK T P) : ∀ (n : Nat) (u6 : Int32) (u7 : Int32) (Iv : IM), G_X12_oftenOn_6 N u1 u2 u3 u4 u5 n u6 u7 Iv = some x → WW E mX12_oftenOn (RM 6 0 0) (ZM E 0 0 (some (.int x.1)) T x.2 J P) 0 0 T Iv J P 6 [(0, .ref 101), (1, .int u1), (2, .int u2), (3, .int u3), (4, .int u4), (5, .int u5), (6, .int u6), (7, .int u7)] [] := by
  intro n
  induction n with
  | zero =>
    intro u6 u7 Iv hF
    cases hF
  | succ n ih =>
    intro u6 u7 Iv hF
    rw [G_X12_oftenOn_6] at hF
    refine r_iload dX12_oftenOn_6 rfl ?_
    refine r_iconst (v := 5) dX12_oftenOn_8 (by decide) ?_
    refine r_icmp_ge (tgt := 74) dX12_oftenOn_9 (by decide) (fun h2 => ?_) (fun h2 => ?_)
    · have hF := tw hF h2
      refine r_iload dX12_oftenOn_74 rfl ?_
      obtain rfl := Option.some.inj hF
      exact r_ireturn rfl rfl dX12_oftenOn_76 (Nat.le_of_ble_eq_true rfl) (Nat.le_of_ble_eq_true rfl)
    · have hF := fw hF h2
      refine r_aload_n dX12_oftenOn_12 rfl rfl ?_
      refine r_getP lk_X12_16 (ln_101 hL) (pp_101_3 hL) dX12_oftenOn_13 ?_
      refine r_iload dX12_oftenOn_16 rfl ?_
      obtain ⟨g3, hF⟩ := gd hF
      refine r_iald (ln_104 hL) (by rw [(nl_104 hL)]; exact g3) dX12_oftenOn_18 ?_
      refine r_if_le (tgt := 68) dX12_oftenOn_19 (by decide) (fun h5 => ?_) (fun h5 => ?_)
      · have hF := tw hF h5
        refine r_iinc (v := (u7 + 1)) (ls' := [(7, .int (u7 + 1)), (0, .ref 101), (1, .int u1), (2, .int u2), (3, .int u3), (4, .int u4), (5, .int u5), (6, .int u6)]) dX12_oftenOn_68 rfl rfl (by decide) rfl ?_
        refine r_goto (tgt := 6) dX12_oftenOn_71 (by decide) ?_
        refine r_sub (ls' := [(0, .ref 101), (1, .int u1), (2, .int u2), (3, .int u3), (4, .int u4), (5, .int u5), (6, .int u6), (7, .int (u7 + 1))]) [1, 2, 3, 4, 5, 6, 7, 0] rfl ?_
        exact ih u6 (u7 + 1) Iv hF
      · have hF := fw hF h5
        refine r_aload_n dX12_oftenOn_22 rfl rfl ?_
        refine r_iload_n dX12_oftenOn_23 rfl rfl ?_
        refine r_iload_n dX12_oftenOn_24 rfl rfl ?_
        refine r_iload_n dX12_oftenOn_25 rfl rfl ?_
        refine r_iload dX12_oftenOn_26 rfl ?_
        refine r_iadd dX12_oftenOn_28 ?_
        refine r_bipush (v := 34) dX12_oftenOn_29 (by decide) ?_
        refine r_iadd dX12_oftenOn_31 ?_
        refine r_bipush (v := 36) dX12_oftenOn_32 (by decide) ?_
        refine r_irem dX12_oftenOn_34 (by decide) ?_
        refine r_iload dX12_oftenOn_35 rfl ?_
        obtain ⟨x6, hx6, hF⟩ := bnd hF
        refine c_virt_i (As := [.int u1, .int u2, .int (((u3 + u7) + 34) - ((u3 + u7) + 34) / 36 * 36), .int u4]) mi_X12_falls kw_1270 ks_48 kw_1268 rfl (by decide) (ln_101 hL) (ok_X12_falls hL  hx6) rfl rfl (Nat.le_of_ble_eq_true rfl) ⟨Nat.le_of_ble_eq_true rfl, Nat.le_of_ble_eq_true rfl⟩ ⟨Nat.le_of_ble_eq_true rfl, Nat.le_of_ble_eq_true rfl⟩ dX12_oftenOn_37 ?_
        refine r_if_eq (tgt := 68) dX12_oftenOn_40 (by decide) (fun h8 => ?_) (fun h8 => ?_)
        · have hF := tw hF h8
          refine r_iinc (v := (u7 + 1)) (ls' := [(7, .int (u7 + 1)), (0, .ref 101), (1, .int u1), (2, .int u2), (3, .int u3), (4, .int u4), (5, .int u5), (6, .int u6)]) dX12_oftenOn_68 rfl rfl (by decide) rfl ?_
          refine r_goto (tgt := 6) dX12_oftenOn_71 (by decide) ?_
          refine r_sub (ls' := [(0, .ref 101), (1, .int u1), (2, .int u2), (3, .int u3), (4, .int u4), (5, .int u5), (6, .int u6), (7, .int (u7 + 1))]) [1, 2, 3, 4, 5, 6, 7, 0] rfl ?_
          exact ih u6 (u7 + 1) x6.2 hF
        · have hF := fw hF h8
          refine r_iload dX12_oftenOn_43 rfl ?_
          refine r_aload_n dX12_oftenOn_45 rfl rfl ?_
          refine c_virt_i (As := []) mi_X12_squareOf kw_1278 ks_50 kw_1276 rfl (by decide) (ln_101 hL) (ok_X12_squareOf hL  ) rfl rfl (Nat.le_of_ble_eq_true rfl) ⟨Nat.le_of_ble_eq_true rfl, Nat.le_of_ble_eq_true rfl⟩ ⟨Nat.le_of_ble_eq_true rfl, Nat.le_of_ble_eq_true rfl⟩ dX12_oftenOn_46 ?_
          refine r_iload dX12_oftenOn_49 rfl ?_
          refine r_icmp_ne (tgt := 64) dX12_oftenOn_51 (by decide) (fun h10 => ?_) (fun h10 => ?_)
          · have hF := fw hF h10
            refine r_iconst (v := 0) dX12_oftenOn_64 (by decide) ?_
            refine r_iadd dX12_oftenOn_65 ?_
            refine r_letV hF (fun y11 hF => ?_)
            refine r_istore (ls' := [(6, .int y11), (0, .ref 101), (1, .int u1), (2, .int u2), (3, .int u3), (4, .int u4), (5, .int u5), (7, .int u7)]) dX12_oftenOn_66 (by decide) rfl ?_
            refine r_iinc (v := (u7 + 1)) (ls' := [(7, .int (u7 + 1)), (6, .int y11), (0, .ref 101), (1, .int u1), (2, .int u2), (3, .int u3), (4, .int u4), (5, .int u5)]) dX12_oftenOn_68 rfl rfl (by decide) rfl ?_
            refine r_goto (tgt := 6) dX12_oftenOn_71 (by decide) ?_
            refine r_sub (ls' := [(0, .ref 101), (1, .int u1), (2, .int u2), (3, .int u3), (4, .int u4), (5, .int u5), (6, .int y11), (7, .int (u7 + 1))]) [2, 3, 4, 5, 6, 7, 1, 0] rfl ?_
            exact ih y11 (u7 + 1) x6.2 hF
          · have hF := tw hF h10
            refine r_aload_n dX12_oftenOn_54 rfl rfl ?_
            refine r_getP lk_X12_16 (ln_101 hL) (pp_101_3 hL) dX12_oftenOn_55 ?_
            refine r_iload dX12_oftenOn_58 rfl ?_
            obtain ⟨g12, hF⟩ := gd hF
            refine r_iald (ln_104 hL) (by rw [(nl_104 hL)]; exact g12) dX12_oftenOn_60 ?_
            refine r_goto (tgt := 65) dX12_oftenOn_61 (by decide) ?_
            refine r_iadd dX12_oftenOn_65 ?_
            refine r_letV hF (fun y13 hF => ?_)
            refine r_istore (ls' := [(6, .int y13), (0, .ref 101), (1, .int u1), (2, .int u2), (3, .int u3), (4, .int u4), (5, .int u5), (7, .int u7)]) dX12_oftenOn_66 (by decide) rfl ?_
            refine r_iinc (v := (u7 + 1)) (ls' := [(7, .int (u7 + 1)), (6, .int y13), (0, .ref 101), (1, .int u1), (2, .int u2), (3, .int u3), (4, .int u4), (5, .int u5)]) dX12_oftenOn_68 rfl rfl (by decide) rfl ?_
            refine r_goto (tgt := 6) dX12_oftenOn_71 (by decide) ?_
            refine r_sub (ls' := [(0, .ref 101), (1, .int u1), (2, .int u2), (3, .int u3), (4, .int u4), (5, .int u5), (6, .int y13), (7, .int (u7 + 1))]) [2, 3, 4, 5, 6, 7, 1, 0] rfl ?_
            exact ih y13 (u7 + 1) x6.2 hF
def F_X12_oftenOn (N : Nat) (I : IM) (p1 : Int32) (p2 : Int32) (p3 : Int32) (p4 : Int32) (p5 : Int32) : Option (Int32 × IM) := (G_X12_oftenOn_6 N p1 p2 p3 p4 p5 N 0 0 I)
set_option maxHeartbeats 4000000 in
theorem ok_X12_oftenOn {E : GE} {T : TM} {I : IM} {J : JM} {P : PM} {p1 : Int32} {p2 : Int32} {p3 : Int32} {p4 : Int32} {p5 : Int32} {N : Nat} {x : Int32 × IM} (hL : LOK T P) (hF : F_X12_oftenOn N I p1 p2 p3 p4 p5 = some x) : Ctr E mX12_oftenOn 6 0 0 [.ref 101, .int p1, .int p2, .int p3, .int p4, .int p5] T I J P (some (.int x.1)) T x.2 J P := by
  unfold F_X12_oftenOn at hF
  refine ctr_intro rfl (by decide) (Nat.le_of_ble_eq_true rfl) ?_
  refine r_sub (ls' := [(5, .int p5), (4, .int p4), (3, .int p3), (2, .int p2), (1, .int p1), (0, .ref 101)]) [5, 4, 3, 2, 1, 0] rfl ?_
  refine r_iconst (v := 0) dX12_oftenOn_0 (by decide) ?_
  refine r_istore (ls' := [(6, .int 0), (5, .int p5), (4, .int p4), (3, .int p3), (2, .int p2), (1, .int p1), (0, .ref 101)]) dX12_oftenOn_1 (by decide) rfl ?_
  refine r_iconst (v := 0) dX12_oftenOn_3 (by decide) ?_
  refine r_istore (ls' := [(7, .int 0), (6, .int 0), (5, .int p5), (4, .int p4), (3, .int p3), (2, .int p2), (1, .int p1), (0, .ref 101)]) dX12_oftenOn_4 (by decide) rfl ?_
  refine r_sub (ls' := [(0, .ref 101), (1, .int p1), (2, .int p2), (3, .int p3), (4, .int p4), (5, .int p5), (6, .int 0), (7, .int 0)]) [7, 6, 5, 4, 3, 2, 1, 0] rfl ?_
  exact okG_X12_oftenOn_6 hL   N 0 0 I hF
def F_X12_isSquare (p1 : Int32) : Int32 := (F_X12_in p1 (-999) 999)
set_option maxHeartbeats 4000000 in
theorem ok_X12_isSquare {E : GE} {T : TM} {I : IM} {J : JM} {P : PM} {p1 : Int32} (hL : LOK T P) : Ctr E mX12_isSquare 1 0 0 [.int p1] T I J P (some (.int (F_X12_isSquare p1))) T I J P := by
  generalize hF : F_X12_isSquare p1 = r
  unfold F_X12_isSquare at hF
  refine ctr_intro rfl (by decide) (Nat.le_of_ble_eq_true rfl) ?_
  refine r_sub (ls' := [(0, .int p1)]) [0] rfl ?_
  refine r_iload_n dX12_isSquare_0 rfl rfl ?_
  refine r_sipush (v := (-999)) dX12_isSquare_1 (by decide) ?_
  refine r_sipush (v := 999) dX12_isSquare_4 (by decide) ?_
  refine c_static_i (As := [.int p1, .int (-999), .int 999]) mi_X12_in kw_1085 kw_1084 (ok_X12_in hL  (p1 := p1) (p2 := (-999)) (p3 := 999)) rfl rfl (Nat.le_of_ble_eq_true rfl) ⟨Nat.le_of_ble_eq_true rfl, Nat.le_of_ble_eq_true rfl⟩ ⟨Nat.le_of_ble_eq_true rfl, Nat.le_of_ble_eq_true rfl⟩ dX12_isSquare_7 ?_
  obtain rfl := hF
  exact r_ireturn rfl (nz_X12_in p1 (-999) 999) dX12_isSquare_10 (Nat.le_of_ble_eq_true rfl) (Nat.le_of_ble_eq_true rfl)
theorem nz_X12_isSquare (p1 : Int32) : narrow .boolean (.int (F_X12_isSquare p1)) = .int (F_X12_isSquare p1) := by
  unfold F_X12_isSquare
  repeat' split
  all_goals first | (with_reducible exact nz_X12_in ..) | rfl
def G_X12_partOf_5 (N : Nat) (u0 : Int32) (u1 : Int32) (u2 : Int32) : Nat → Int32 → Int32 → Option (Int32)
  | 0, _, _ => none
  | n + 1, u3, u4 => (if u4 = 0 then (letb (if u2 = 0 then u0 else u1) (fun y4 : Int32 => (if ¬ u3 = 0 then (some (y4 / u3)) else none))) else (if ¬ u4 = 0 then (letb (u3 - u3 / u4 * u4) (fun y7 : Int32 => (G_X12_partOf_5 N u0 u1 u2 n u4 y7))) else none))
set_option maxHeartbeats 4000000 in
theorem okG_X12_partOf_5 {E : GE} {T : TM} {I : IM} {J : JM} {P : PM} {N : Nat} {u0 : Int32} {u1 : Int32} {u2 : Int32} {x : Int32} (hL : LOK T P) : ∀ (n : Nat) (u3 : Int32) (u4 : Int32), G_X12_partOf_5 N u0 u1 u2 n u3 u4 = some x → WW E mX12_partOf (RM 0 0 0) (ZM E 0 0 (some (.int x)) T I J P) 0 0 T I J P 5 [(0, .int u0), (1, .int u1), (2, .int u2), (3, .int u3), (4, .int u4)] [] := by
  intro n
  induction n with
  | zero =>
    intro u3 u4 hF
    cases hF
  | succ n ih =>
    intro u3 u4 hF
    rw [G_X12_partOf_5] at hF
    refine r_iload dX12_partOf_5 rfl ?_
    refine r_if_eq (tgt := 26) dX12_partOf_7 (by decide) (fun h2 => ?_) (fun h2 => ?_)
    · have hF := tw hF h2
      refine r_iload_n dX12_partOf_26 rfl rfl ?_
      refine r_join (G1 := fun y4 : Int32 => WW E mX12_partOf (RM 0 0 0) (ZM E 0 0 (some (.int x)) T I J P) 0 0 T I J P 35 [(0, .int u0), (1, .int u1), (2, .int u2), (3, .int u3), (4, .int u4)] [.int y4]) hF (fun y4 hF => ?_) (fun y4 hv hJ => ?_)
      · refine r_iload_n dX12_partOf_35 rfl rfl ?_
        obtain ⟨g5, hF⟩ := gd hF
        refine r_idiv dX12_partOf_36 g5 ?_
        obtain rfl := Option.some.inj hF
        exact r_ireturn rfl rfl dX12_partOf_37 (Nat.le_of_ble_eq_true rfl) (Nat.le_of_ble_eq_true rfl)
      · refine r_if_ne (tgt := 34) dX12_partOf_27 (by decide) (fun h3 => ?_) (fun h3 => ?_)
        · have hv := fw hv h3
          refine r_iload_n dX12_partOf_34 rfl rfl ?_
          obtain rfl := hv
          exact hJ
        · have hv := tw hv h3
          refine r_iload_n dX12_partOf_30 rfl rfl ?_
          refine r_goto (tgt := 35) dX12_partOf_31 (by decide) ?_
          obtain rfl := hv
          exact hJ
    · have hF := fw hF h2
      refine r_iload_n dX12_partOf_10 rfl rfl ?_
      refine r_iload dX12_partOf_11 rfl ?_
      obtain ⟨g6, hF⟩ := gd hF
      refine r_irem dX12_partOf_13 g6 ?_
      refine r_letV hF (fun y7 hF => ?_)
      refine r_istore (ls' := [(5, .int y7), (0, .int u0), (1, .int u1), (2, .int u2), (3, .int u3), (4, .int u4)]) dX12_partOf_14 (by decide) rfl ?_
      refine r_iload dX12_partOf_16 rfl ?_
      refine r_istore_n (ls' := [(3, .int u4), (5, .int y7), (0, .int u0), (1, .int u1), (2, .int u2), (4, .int u4)]) dX12_partOf_18 rfl (by decide) rfl ?_
      refine r_iload dX12_partOf_19 rfl ?_
      refine r_istore (ls' := [(4, .int y7), (3, .int u4), (5, .int y7), (0, .int u0), (1, .int u1), (2, .int u2)]) dX12_partOf_21 (by decide) rfl ?_
      refine r_goto (tgt := 5) dX12_partOf_23 (by decide) ?_
      refine r_sub (ls' := [(0, .int u0), (1, .int u1), (2, .int u2), (3, .int u4), (4, .int y7)]) [3, 4, 5, 1, 0] rfl ?_
      exact ih u4 y7 hF
def F_X12_partOf (N : Nat) (p1 : Int32) (p2 : Int32) (p3 : Int32) : Option (Int32) := (G_X12_partOf_5 N p1 p2 p3 N p1 p2)
set_option maxHeartbeats 4000000 in
theorem ok_X12_partOf {E : GE} {T : TM} {I : IM} {J : JM} {P : PM} {p1 : Int32} {p2 : Int32} {p3 : Int32} {N : Nat} {x : Int32} (hL : LOK T P) (hF : F_X12_partOf N p1 p2 p3 = some x) : Ctr E mX12_partOf 0 0 0 [.int p1, .int p2, .int p3] T I J P (some (.int x)) T I J P := by
  unfold F_X12_partOf at hF
  refine ctr_intro rfl (by decide) (Nat.le_of_ble_eq_true rfl) ?_
  refine r_sub (ls' := [(2, .int p3), (1, .int p2), (0, .int p1)]) [2, 1, 0] rfl ?_
  refine r_iload_n dX12_partOf_0 rfl rfl ?_
  refine r_istore_n (ls' := [(3, .int p1), (2, .int p3), (1, .int p2), (0, .int p1)]) dX12_partOf_1 rfl (by decide) rfl ?_
  refine r_iload_n dX12_partOf_2 rfl rfl ?_
  refine r_istore (ls' := [(4, .int p2), (3, .int p1), (2, .int p3), (1, .int p2), (0, .int p1)]) dX12_partOf_3 (by decide) rfl ?_
  refine r_sub (ls' := [(0, .int p1), (1, .int p2), (2, .int p3), (3, .int p1), (4, .int p2)]) [4, 3, 2, 1, 0] rfl ?_
  exact okG_X12_partOf_5 hL   N p1 p2 hF
def F_X12_odds (N : Nat) (I : IM) (p1 : Int32) (p2 : Int32) (p3 : Int32) (p4 : Int32) (p5 : Int32) (p6 : Int32) : Option (Int32 × IM) := (if (F_X12_isFall I p1 p2 p3 p4) = 0 then (some ((-1), I)) else (if (F_X12_isSquare p5) = 0 then (some ((-1), I)) else (if (F_X12_isSide p6) = 0 then (some ((-1), I)) else ((F_X12_oftenOn N I p1 p2 p3 p4 p5).bind (fun x4 => ((F_X12_handMany N x4.2).bind (fun x5 => ((F_X12_partOf N x4.1 x5 p6).bind (fun x6 => (some (x6, x4.2)))))))))))
set_option maxHeartbeats 4000000 in
theorem ok_X12_odds {E : GE} {T : TM} {I : IM} {J : JM} {P : PM} {p1 : Int32} {p2 : Int32} {p3 : Int32} {p4 : Int32} {p5 : Int32} {p6 : Int32} {N : Nat} {x : Int32 × IM} (hL : LOK T P) (hF : F_X12_odds N I p1 p2 p3 p4 p5 p6 = some x) : Ctr E mX12_odds 7 0 0 [.ref 101, .int p1, .int p2, .int p3, .int p4, .int p5, .int p6] T I J P (some (.int x.1)) T x.2 J P := by
  unfold F_X12_odds at hF
  refine ctr_intro rfl (by decide) (Nat.le_of_ble_eq_true rfl) ?_
  refine r_sub (ls' := [(6, .int p6), (5, .int p5), (4, .int p4), (3, .int p3), (2, .int p2), (1, .int p1), (0, .ref 101)]) [6, 5, 4, 3, 2, 1, 0] rfl ?_
  refine r_aload_n dX12_odds_0 rfl rfl ?_
  refine r_iload_n dX12_odds_1 rfl rfl ?_
  refine r_iload_n dX12_odds_2 rfl rfl ?_
  refine r_iload_n dX12_odds_3 rfl rfl ?_
  refine r_iload dX12_odds_4 rfl ?_
  refine c_virt_i (As := [.int p1, .int p2, .int p3, .int p4]) mi_X12_isFall kw_1208 ks_39 kw_1206 rfl (by decide) (ln_101 hL) (ok_X12_isFall hL  (p1 := p1) (p2 := p2) (p3 := p3) (p4 := p4)) rfl rfl (Nat.le_of_ble_eq_true rfl) ⟨Nat.le_of_ble_eq_true rfl, Nat.le_of_ble_eq_true rfl⟩ ⟨Nat.le_of_ble_eq_true rfl, Nat.le_of_ble_eq_true rfl⟩ dX12_odds_6 ?_
  refine r_if_eq (tgt := 28) dX12_odds_9 (by decide) (fun h1 => ?_) (fun h1 => ?_)
  · have hF := tw hF h1
    refine r_iconst (v := (-1)) dX12_odds_28 (by decide) ?_
    obtain rfl := Option.some.inj hF
    exact r_ireturn rfl rfl dX12_odds_29 (Nat.le_of_ble_eq_true rfl) (Nat.le_of_ble_eq_true rfl)
  · have hF := fw hF h1
    refine r_iload dX12_odds_12 rfl ?_
    refine c_static_i (As := [.int p5]) mi_X12_isSquare kw_1297 kw_1296 (ok_X12_isSquare hL  (p1 := p5)) rfl rfl (Nat.le_of_ble_eq_true rfl) ⟨Nat.le_of_ble_eq_true rfl, Nat.le_of_ble_eq_true rfl⟩ ⟨Nat.le_of_ble_eq_true rfl, Nat.le_of_ble_eq_true rfl⟩ dX12_odds_14 ?_
    refine r_if_eq (tgt := 28) dX12_odds_17 (by decide) (fun h2 => ?_) (fun h2 => ?_)
    · have hF := tw hF h2
      refine r_iconst (v := (-1)) dX12_odds_28 (by decide) ?_
      obtain rfl := Option.some.inj hF
      exact r_ireturn rfl rfl dX12_odds_29 (Nat.le_of_ble_eq_true rfl) (Nat.le_of_ble_eq_true rfl)
    · have hF := fw hF h2
      refine r_iload dX12_odds_20 rfl ?_
      refine c_static_i (As := [.int p6]) mi_X12_isSide kw_1300 kw_1299 (ok_X12_isSide hL  (p1 := p6)) rfl rfl (Nat.le_of_ble_eq_true rfl) ⟨Nat.le_of_ble_eq_true rfl, Nat.le_of_ble_eq_true rfl⟩ ⟨Nat.le_of_ble_eq_true rfl, Nat.le_of_ble_eq_true rfl⟩ dX12_odds_22 ?_
      refine r_if_ne (tgt := 30) dX12_odds_25 (by decide) (fun h3 => ?_) (fun h3 => ?_)
      · have hF := fw hF h3
        refine r_aload_n dX12_odds_30 rfl rfl ?_
        refine r_iload_n dX12_odds_31 rfl rfl ?_
        refine r_iload_n dX12_odds_32 rfl rfl ?_
        refine r_iload_n dX12_odds_33 rfl rfl ?_
        refine r_iload dX12_odds_34 rfl ?_
        refine r_iload dX12_odds_36 rfl ?_
        obtain ⟨x4, hx4, hF⟩ := bnd hF
        refine c_virt_i (As := [.int p1, .int p2, .int p3, .int p4, .int p5]) mi_X12_oftenOn kw_1304 ks_52 kw_1302 rfl (by decide) (ln_101 hL) (ok_X12_oftenOn hL  hx4) rfl rfl (Nat.le_of_ble_eq_true rfl) ⟨Nat.le_of_ble_eq_true rfl, Nat.le_of_ble_eq_true rfl⟩ ⟨Nat.le_of_ble_eq_true rfl, Nat.le_of_ble_eq_true rfl⟩ dX12_odds_38 ?_
        refine r_aload_n dX12_odds_41 rfl rfl ?_
        obtain ⟨x5, hx5, hF⟩ := bnd hF
        refine c_virt_i (As := []) mi_X12_handMany kw_1192 ks_37 kw_1190 rfl (by decide) (ln_101 hL) (ok_X12_handMany hL  hx5) rfl rfl (Nat.le_of_ble_eq_true rfl) ⟨Nat.le_of_ble_eq_true rfl, Nat.le_of_ble_eq_true rfl⟩ ⟨Nat.le_of_ble_eq_true rfl, Nat.le_of_ble_eq_true rfl⟩ dX12_odds_42 ?_
        refine r_iload dX12_odds_45 rfl ?_
        obtain ⟨x6, hx6, hF⟩ := bnd hF
        refine c_static_i (As := [.int x4.1, .int x5, .int p6]) mi_X12_partOf kw_1307 kw_1306 (ok_X12_partOf hL  hx6) rfl rfl (Nat.le_of_ble_eq_true rfl) ⟨Nat.le_of_ble_eq_true rfl, Nat.le_of_ble_eq_true rfl⟩ ⟨Nat.le_of_ble_eq_true rfl, Nat.le_of_ble_eq_true rfl⟩ dX12_odds_47 ?_
        obtain rfl := Option.some.inj hF
        exact r_ireturn rfl rfl dX12_odds_50 (Nat.le_of_ble_eq_true rfl) (Nat.le_of_ble_eq_true rfl)
      · have hF := tw hF h3
        refine r_iconst (v := (-1)) dX12_odds_28 (by decide) ?_
        obtain rfl := Option.some.inj hF
        exact r_ireturn rfl rfl dX12_odds_29 (Nat.le_of_ble_eq_true rfl) (Nat.le_of_ble_eq_true rfl)
def G_X12_aim_31 (N : Nat) (u1 : Int32) (u2 : Int32) (u3 : Int32) (u4 : Int32) : Nat → Int32 → Int32 → Int32 → IM → Option (Int32 × IM)
  | 0, _, _, _, _ => none
  | n + 1, u5, u6, u7, Iv => (if 36 ≤ u7 then (some (u5, Iv)) else ((F_X12_oftenOn N Iv u1 u2 u7 u3 u4).bind (fun x5 => (letb (if x5.1 ≤ u6 then u5 else u7) (fun y7 : Int32 => (letb (if x5.1 ≤ u6 then u6 else x5.1) (fun y9 : Int32 => (G_X12_aim_31 N u1 u2 u3 u4 n y7 y9 (u7 + 1) x5.2))))))))
set_option maxHeartbeats 4000000 in
theorem okG_X12_aim_31 {E : GE} {T : TM} {J : JM} {P : PM} {N : Nat} {u1 : Int32} {u2 : Int32} {u3 : Int32} {u4 : Int32} {x : Int32 × IM} (hL : LOK T P) : ∀ (n : Nat) (u5 : Int32) (u6 : Int32) (u7 : Int32) (Iv : IM), G_X12_aim_31 N u1 u2 u3 u4 n u5 u6 u7 Iv = some x → WW E mX12_aim (RM 7 0 0) (ZM E 0 0 (some (.int x.1)) T x.2 J P) 0 0 T Iv J P 31 [(0, .ref 101), (1, .int u1), (2, .int u2), (3, .int u3), (4, .int u4), (5, .int u5), (6, .int u6), (7, .int u7)] [] := by
  intro n
  induction n with
  | zero =>
    intro u5 u6 u7 Iv hF
    cases hF
  | succ n ih =>
    intro u5 u6 u7 Iv hF
    rw [G_X12_aim_31] at hF
    refine r_iload dX12_aim_31 rfl ?_
    refine r_bipush (v := 36) dX12_aim_33 (by decide) ?_
    refine r_icmp_ge (tgt := 89) dX12_aim_35 (by decide) (fun h4 => ?_) (fun h4 => ?_)
    · have hF := tw hF h4
      refine r_iload dX12_aim_89 rfl ?_
      obtain rfl := Option.some.inj hF
      exact r_ireturn rfl rfl dX12_aim_91 (Nat.le_of_ble_eq_true rfl) (Nat.le_of_ble_eq_true rfl)
    · have hF := fw hF h4
      refine r_aload_n dX12_aim_38 rfl rfl ?_
      refine r_iload_n dX12_aim_39 rfl rfl ?_
      refine r_iload_n dX12_aim_40 rfl rfl ?_
      refine r_iload dX12_aim_41 rfl ?_
      refine r_iload_n dX12_aim_43 rfl rfl ?_
      refine r_iload dX12_aim_44 rfl ?_
      obtain ⟨x5, hx5, hF⟩ := bnd hF
      refine c_virt_i (As := [.int u1, .int u2, .int u7, .int u3, .int u4]) mi_X12_oftenOn kw_1304 ks_52 kw_1302 rfl (by decide) (ln_101 hL) (ok_X12_oftenOn hL  hx5) rfl rfl (Nat.le_of_ble_eq_true rfl) ⟨Nat.le_of_ble_eq_true rfl, Nat.le_of_ble_eq_true rfl⟩ ⟨Nat.le_of_ble_eq_true rfl, Nat.le_of_ble_eq_true rfl⟩ dX12_aim_46 ?_
      refine r_istore (ls' := [(8, .int x5.1), (0, .ref 101), (1, .int u1), (2, .int u2), (3, .int u3), (4, .int u4), (5, .int u5), (6, .int u6), (7, .int u7)]) dX12_aim_49 (by decide) rfl ?_
      refine r_iload dX12_aim_51 rfl ?_
      refine r_iload dX12_aim_53 rfl ?_
      refine r_join (G1 := fun y7 : Int32 => WW E mX12_aim (RM 7 0 0) (ZM E 0 0 (some (.int x.1)) T x.2 J P) 0 0 T x5.2 J P 65 [(8, .int x5.1), (0, .ref 101), (1, .int u1), (2, .int u2), (3, .int u3), (4, .int u4), (5, .int u5), (6, .int u6), (7, .int u7)] [.int y7]) hF (fun y7 hF => ?_) (fun y7 hv hJ => ?_)
      · refine r_istore (ls' := [(5, .int y7), (8, .int x5.1), (0, .ref 101), (1, .int u1), (2, .int u2), (3, .int u3), (4, .int u4), (6, .int u6), (7, .int u7)]) dX12_aim_65 (by decide) rfl ?_
        refine r_iload dX12_aim_67 rfl ?_
        refine r_iload dX12_aim_69 rfl ?_
        refine r_join (G1 := fun y9 : Int32 => WW E mX12_aim (RM 7 0 0) (ZM E 0 0 (some (.int x.1)) T x.2 J P) 0 0 T x5.2 J P 81 [(5, .int y7), (8, .int x5.1), (0, .ref 101), (1, .int u1), (2, .int u2), (3, .int u3), (4, .int u4), (6, .int u6), (7, .int u7)] [.int y9]) hF (fun y9 hF => ?_) (fun y9 hv hJ => ?_)
        · refine r_istore (ls' := [(6, .int y9), (5, .int y7), (8, .int x5.1), (0, .ref 101), (1, .int u1), (2, .int u2), (3, .int u3), (4, .int u4), (7, .int u7)]) dX12_aim_81 (by decide) rfl ?_
          refine r_iinc (v := (u7 + 1)) (ls' := [(7, .int (u7 + 1)), (6, .int y9), (5, .int y7), (8, .int x5.1), (0, .ref 101), (1, .int u1), (2, .int u2), (3, .int u3), (4, .int u4)]) dX12_aim_83 rfl rfl (by decide) rfl ?_
          refine r_goto (tgt := 31) dX12_aim_86 (by decide) ?_
          refine r_sub (ls' := [(0, .ref 101), (1, .int u1), (2, .int u2), (3, .int u3), (4, .int u4), (5, .int y7), (6, .int y9), (7, .int (u7 + 1))]) [4, 5, 6, 7, 8, 2, 1, 0] rfl ?_
          exact ih y7 y9 (u7 + 1) x5.2 hF
        · refine r_icmp_le (tgt := 79) dX12_aim_71 (by decide) (fun h8 => ?_) (fun h8 => ?_)
          · have hv := tw hv h8
            refine r_iload dX12_aim_79 rfl ?_
            obtain rfl := hv
            exact hJ
          · have hv := fw hv h8
            refine r_iload dX12_aim_74 rfl ?_
            refine r_goto (tgt := 81) dX12_aim_76 (by decide) ?_
            obtain rfl := hv
            exact hJ
      · refine r_icmp_le (tgt := 63) dX12_aim_55 (by decide) (fun h6 => ?_) (fun h6 => ?_)
        · have hv := tw hv h6
          refine r_iload dX12_aim_63 rfl ?_
          obtain rfl := hv
          exact hJ
        · have hv := fw hv h6
          refine r_iload dX12_aim_58 rfl ?_
          refine r_goto (tgt := 65) dX12_aim_60 (by decide) ?_
          obtain rfl := hv
          exact hJ
def F_X12_aim (N : Nat) (I : IM) (p1 : Int32) (p2 : Int32) (p3 : Int32) (p4 : Int32) : Option (Int32 × IM) := (if (F_X12_isFall I p1 p2 0 p3) = 0 then (some ((-1), I)) else (if (F_X12_isSquare p4) = 0 then (some ((-1), I)) else (G_X12_aim_31 N p1 p2 p3 p4 N (-3) 0 0 I)))
set_option maxHeartbeats 4000000 in
theorem ok_X12_aim {E : GE} {T : TM} {I : IM} {J : JM} {P : PM} {p1 : Int32} {p2 : Int32} {p3 : Int32} {p4 : Int32} {N : Nat} {x : Int32 × IM} (hL : LOK T P) (hF : F_X12_aim N I p1 p2 p3 p4 = some x) : Ctr E mX12_aim 7 0 0 [.ref 101, .int p1, .int p2, .int p3, .int p4] T I J P (some (.int x.1)) T x.2 J P := by
  unfold F_X12_aim at hF
  refine ctr_intro rfl (by decide) (Nat.le_of_ble_eq_true rfl) ?_
  refine r_sub (ls' := [(4, .int p4), (3, .int p3), (2, .int p2), (1, .int p1), (0, .ref 101)]) [4, 3, 2, 1, 0] rfl ?_
  refine r_aload_n dX12_aim_0 rfl rfl ?_
  refine r_iload_n dX12_aim_1 rfl rfl ?_
  refine r_iload_n dX12_aim_2 rfl rfl ?_
  refine r_iconst (v := 0) dX12_aim_3 (by decide) ?_
  refine r_iload_n dX12_aim_4 rfl rfl ?_
  refine c_virt_i (As := [.int p1, .int p2, .int 0, .int p3]) mi_X12_isFall kw_1208 ks_39 kw_1206 rfl (by decide) (ln_101 hL) (ok_X12_isFall hL  (p1 := p1) (p2 := p2) (p3 := 0) (p4 := p3)) rfl rfl (Nat.le_of_ble_eq_true rfl) ⟨Nat.le_of_ble_eq_true rfl, Nat.le_of_ble_eq_true rfl⟩ ⟨Nat.le_of_ble_eq_true rfl, Nat.le_of_ble_eq_true rfl⟩ dX12_aim_5 ?_
  refine r_if_eq (tgt := 19) dX12_aim_8 (by decide) (fun h1 => ?_) (fun h1 => ?_)
  · have hF := tw hF h1
    refine r_iconst (v := (-1)) dX12_aim_19 (by decide) ?_
    obtain rfl := Option.some.inj hF
    exact r_ireturn rfl rfl dX12_aim_20 (Nat.le_of_ble_eq_true rfl) (Nat.le_of_ble_eq_true rfl)
  · have hF := fw hF h1
    refine r_iload dX12_aim_11 rfl ?_
    refine c_static_i (As := [.int p4]) mi_X12_isSquare kw_1297 kw_1296 (ok_X12_isSquare hL  (p1 := p4)) rfl rfl (Nat.le_of_ble_eq_true rfl) ⟨Nat.le_of_ble_eq_true rfl, Nat.le_of_ble_eq_true rfl⟩ ⟨Nat.le_of_ble_eq_true rfl, Nat.le_of_ble_eq_true rfl⟩ dX12_aim_13 ?_
    refine r_if_ne (tgt := 21) dX12_aim_16 (by decide) (fun h2 => ?_) (fun h2 => ?_)
    · have hF := fw hF h2
      refine r_bipush (v := (-3)) dX12_aim_21 (by decide) ?_
      refine r_istore (ls' := [(5, .int (-3)), (4, .int p4), (3, .int p3), (2, .int p2), (1, .int p1), (0, .ref 101)]) dX12_aim_23 (by decide) rfl ?_
      refine r_iconst (v := 0) dX12_aim_25 (by decide) ?_
      refine r_istore (ls' := [(6, .int 0), (5, .int (-3)), (4, .int p4), (3, .int p3), (2, .int p2), (1, .int p1), (0, .ref 101)]) dX12_aim_26 (by decide) rfl ?_
      refine r_iconst (v := 0) dX12_aim_28 (by decide) ?_
      refine r_istore (ls' := [(7, .int 0), (6, .int 0), (5, .int (-3)), (4, .int p4), (3, .int p3), (2, .int p2), (1, .int p1), (0, .ref 101)]) dX12_aim_29 (by decide) rfl ?_
      refine r_sub (ls' := [(0, .ref 101), (1, .int p1), (2, .int p2), (3, .int p3), (4, .int p4), (5, .int (-3)), (6, .int 0), (7, .int 0)]) [7, 6, 5, 4, 3, 2, 1, 0] rfl ?_
      exact okG_X12_aim_31 hL   N (-3) 0 0 I hF
    · have hF := tw hF h2
      refine r_iconst (v := (-1)) dX12_aim_19 (by decide) ?_
      obtain rfl := Option.some.inj hF
      exact r_ireturn rfl rfl dX12_aim_20 (Nat.le_of_ble_eq_true rfl) (Nat.le_of_ble_eq_true rfl)
def G_X12_longest_21 (N : Nat) (u1 : Int32) (u2 : Int32) (u3 : Int32) : Nat → Int32 → Int32 → Int32 → IM → Option (Int32 × IM)
  | 0, _, _, _, _ => none
  | n + 1, u4, u5, u6, Iv => (if (Iv 101 0) ≤ u6 then (some (u4, Iv)) else ((F_X12_falls N Iv u6 u1 u2 u3).bind (fun x4 => (letb (if x4.1 = 0 then 400 else (x4.2 101 23)) (fun y6 : Int32 => (if y6 ≤ u5 then (G_X12_longest_21 N u1 u2 u3 n u4 u5 (u6 + 1) x4.2) else (G_X12_longest_21 N u1 u2 u3 n u6 y6 (u6 + 1) x4.2)))))))
set_option maxHeartbeats 4000000 in
theorem okG_X12_longest_21 {E : GE} {T : TM} {J : JM} {P : PM} {N : Nat} {u1 : Int32} {u2 : Int32} {u3 : Int32} {x : Int32 × IM} (hL : LOK T P) : ∀ (n : Nat) (u4 : Int32) (u5 : Int32) (u6 : Int32) (Iv : IM), G_X12_longest_21 N u1 u2 u3 n u4 u5 u6 Iv = some x → WW E mX12_longest (RM 6 0 0) (ZM E 0 0 (some (.int x.1)) T x.2 J P) 0 0 T Iv J P 21 [(0, .ref 101), (1, .int u1), (2, .int u2), (3, .int u3), (4, .int u4), (5, .int u5), (6, .int u6)] [] := by
  intro n
  induction n with
  | zero =>
    intro u4 u5 u6 Iv hF
    cases hF
  | succ n ih =>
    intro u4 u5 u6 Iv hF
    rw [G_X12_longest_21] at hF
    refine r_iload dX12_longest_21 rfl ?_
    refine r_aload_n dX12_longest_23 rfl rfl ?_
    refine r_getI lk_X12_81 (ln_101 hL) dX12_longest_24 ?_
    refine r_icmp_ge (tgt := 79) dX12_longest_27 (by decide) (fun h3 => ?_) (fun h3 => ?_)
    · have hF := tw hF h3
      refine r_iload dX12_longest_79 rfl ?_
      obtain rfl := Option.some.inj hF
      exact r_ireturn rfl rfl dX12_longest_81 (Nat.le_of_ble_eq_true rfl) (Nat.le_of_ble_eq_true rfl)
    · have hF := fw hF h3
      refine r_aload_n dX12_longest_30 rfl rfl ?_
      refine r_iload dX12_longest_31 rfl ?_
      refine r_iload_n dX12_longest_33 rfl rfl ?_
      refine r_iload_n dX12_longest_34 rfl rfl ?_
      refine r_iload_n dX12_longest_35 rfl rfl ?_
      obtain ⟨x4, hx4, hF⟩ := bnd hF
      refine c_virt_i (As := [.int u6, .int u1, .int u2, .int u3]) mi_X12_falls kw_1270 ks_48 kw_1268 rfl (by decide) (ln_101 hL) (ok_X12_falls hL  hx4) rfl rfl (Nat.le_of_ble_eq_true rfl) ⟨Nat.le_of_ble_eq_true rfl, Nat.le_of_ble_eq_true rfl⟩ ⟨Nat.le_of_ble_eq_true rfl, Nat.le_of_ble_eq_true rfl⟩ dX12_longest_36 ?_
      refine r_istore (ls' := [(7, .int x4.1), (0, .ref 101), (1, .int u1), (2, .int u2), (3, .int u3), (4, .int u4), (5, .int u5), (6, .int u6)]) dX12_longest_39 (by decide) rfl ?_
      refine r_iload dX12_longest_41 rfl ?_
      refine r_join (G1 := fun y6 : Int32 => WW E mX12_longest (RM 6 0 0) (ZM E 0 0 (some (.int x.1)) T x.2 J P) 0 0 T x4.2 J P 56 [(7, .int x4.1), (0, .ref 101), (1, .int u1), (2, .int u2), (3, .int u3), (4, .int u4), (5, .int u5), (6, .int u6)] [.int y6]) hF (fun y6 hF => ?_) (fun y6 hv hJ => ?_)
      · refine r_istore (ls' := [(8, .int y6), (7, .int x4.1), (0, .ref 101), (1, .int u1), (2, .int u2), (3, .int u3), (4, .int u4), (5, .int u5), (6, .int u6)]) dX12_longest_56 (by decide) rfl ?_
        refine r_iload dX12_longest_58 rfl ?_
        refine r_iload dX12_longest_60 rfl ?_
        refine r_icmp_le (tgt := 73) dX12_longest_62 (by decide) (fun h8 => ?_) (fun h8 => ?_)
        · have hF := tw hF h8
          refine r_iinc (v := (u6 + 1)) (ls' := [(6, .int (u6 + 1)), (8, .int y6), (7, .int x4.1), (0, .ref 101), (1, .int u1), (2, .int u2), (3, .int u3), (4, .int u4), (5, .int u5)]) dX12_longest_73 rfl rfl (by decide) rfl ?_
          refine r_goto (tgt := 21) dX12_longest_76 (by decide) ?_
          refine r_sub (ls' := [(0, .ref 101), (1, .int u1), (2, .int u2), (3, .int u3), (4, .int u4), (5, .int u5), (6, .int (u6 + 1))]) [3, 4, 5, 6, 7, 8, 0] rfl ?_
          exact ih u4 u5 (u6 + 1) x4.2 hF
        · have hF := fw hF h8
          refine r_iload dX12_longest_65 rfl ?_
          refine r_istore (ls' := [(5, .int y6), (8, .int y6), (7, .int x4.1), (0, .ref 101), (1, .int u1), (2, .int u2), (3, .int u3), (4, .int u4), (6, .int u6)]) dX12_longest_67 (by decide) rfl ?_
          refine r_iload dX12_longest_69 rfl ?_
          refine r_istore (ls' := [(4, .int u6), (5, .int y6), (8, .int y6), (7, .int x4.1), (0, .ref 101), (1, .int u1), (2, .int u2), (3, .int u3), (6, .int u6)]) dX12_longest_71 (by decide) rfl ?_
          refine r_iinc (v := (u6 + 1)) (ls' := [(6, .int (u6 + 1)), (4, .int u6), (5, .int y6), (8, .int y6), (7, .int x4.1), (0, .ref 101), (1, .int u1), (2, .int u2), (3, .int u3)]) dX12_longest_73 rfl rfl (by decide) rfl ?_
          refine r_goto (tgt := 21) dX12_longest_76 (by decide) ?_
          refine r_sub (ls' := [(0, .ref 101), (1, .int u1), (2, .int u2), (3, .int u3), (4, .int u6), (5, .int y6), (6, .int (u6 + 1))]) [5, 6, 7, 8, 1, 2, 0] rfl ?_
          exact ih u6 y6 (u6 + 1) x4.2 hF
      · refine r_if_eq (tgt := 53) dX12_longest_43 (by decide) (fun h5 => ?_) (fun h5 => ?_)
        · have hv := tw hv h5
          refine r_sipush (v := 400) dX12_longest_53 (by decide) ?_
          obtain rfl := hv
          exact hJ
        · have hv := fw hv h5
          refine r_aload_n dX12_longest_46 rfl rfl ?_
          refine r_getI lk_X12_232 (ln_101 hL) dX12_longest_47 ?_
          refine r_goto (tgt := 56) dX12_longest_50 (by decide) ?_
          obtain rfl := hv
          exact hJ
def F_X12_longest (N : Nat) (I : IM) (p1 : Int32) (p2 : Int32) (p3 : Int32) : Option (Int32 × IM) := (if (F_X12_isLetGo p1 p2 p3) = 0 then (some ((-1), I)) else (G_X12_longest_21 N p1 p2 p3 N (-3) 0 0 I))
set_option maxHeartbeats 4000000 in
theorem ok_X12_longest {E : GE} {T : TM} {I : IM} {J : JM} {P : PM} {p1 : Int32} {p2 : Int32} {p3 : Int32} {N : Nat} {x : Int32 × IM} (hL : LOK T P) (hF : F_X12_longest N I p1 p2 p3 = some x) : Ctr E mX12_longest 6 0 0 [.ref 101, .int p1, .int p2, .int p3] T I J P (some (.int x.1)) T x.2 J P := by
  unfold F_X12_longest at hF
  refine ctr_intro rfl (by decide) (Nat.le_of_ble_eq_true rfl) ?_
  refine r_sub (ls' := [(3, .int p3), (2, .int p2), (1, .int p1), (0, .ref 101)]) [3, 2, 1, 0] rfl ?_
  refine r_iload_n dX12_longest_0 rfl rfl ?_
  refine r_iload_n dX12_longest_1 rfl rfl ?_
  refine r_iload_n dX12_longest_2 rfl rfl ?_
  refine c_static_i (As := [.int p1, .int p2, .int p3]) mi_X12_isLetGo kw_1211 kw_1210 (ok_X12_isLetGo hL  (p1 := p1) (p2 := p2) (p3 := p3)) rfl rfl (Nat.le_of_ble_eq_true rfl) ⟨Nat.le_of_ble_eq_true rfl, Nat.le_of_ble_eq_true rfl⟩ ⟨Nat.le_of_ble_eq_true rfl, Nat.le_of_ble_eq_true rfl⟩ dX12_longest_3 ?_
  refine r_if_ne (tgt := 11) dX12_longest_6 (by decide) (fun h1 => ?_) (fun h1 => ?_)
  · have hF := fw hF h1
    refine r_bipush (v := (-3)) dX12_longest_11 (by decide) ?_
    refine r_istore (ls' := [(4, .int (-3)), (3, .int p3), (2, .int p2), (1, .int p1), (0, .ref 101)]) dX12_longest_13 (by decide) rfl ?_
    refine r_iconst (v := 0) dX12_longest_15 (by decide) ?_
    refine r_istore (ls' := [(5, .int 0), (4, .int (-3)), (3, .int p3), (2, .int p2), (1, .int p1), (0, .ref 101)]) dX12_longest_16 (by decide) rfl ?_
    refine r_iconst (v := 0) dX12_longest_18 (by decide) ?_
    refine r_istore (ls' := [(6, .int 0), (5, .int 0), (4, .int (-3)), (3, .int p3), (2, .int p2), (1, .int p1), (0, .ref 101)]) dX12_longest_19 (by decide) rfl ?_
    refine r_sub (ls' := [(0, .ref 101), (1, .int p1), (2, .int p2), (3, .int p3), (4, .int (-3)), (5, .int 0), (6, .int 0)]) [6, 5, 4, 3, 2, 1, 0] rfl ?_
    exact okG_X12_longest_21 hL   N (-3) 0 0 I hF
  · have hF := tw hF h1
    refine r_iconst (v := (-1)) dX12_longest_9 (by decide) ?_
    obtain rfl := Option.some.inj hF
    exact r_ireturn rfl rfl dX12_longest_10 (Nat.le_of_ble_eq_true rfl) (Nat.le_of_ble_eq_true rfl)
def G_X12_missOf_21 (N : Nat) (I : IM) (J : JM) (u5 : Int32) (u6 : Int32) : Nat → Int64 → Int32 → Option (Int32 × IM)
  | 0, _, _ => none
  | n + 1, u7, u9 => (if u6 ≤ u9 then (if (lg_cmp u7 999999999) ≤ 0 then (some ((Int64.toInt32 u7), I)) else (some (999999999, I))) else (if inb u5 4 = true then (if (I 116 u5.toNatClampNeg) ≤ u9 then (if (lg_cmp u7 999999999) ≤ 0 then (some ((Int64.toInt32 u7), I)) else (some (999999999, I))) else (if inb u9 400 = true then (if inb ((40 * u5) + u9) 160 = true then (letb ((Int32.toInt64 (I 111 u9.toNatClampNeg)) - (J 117 ((40 * u5) + u9).toNatClampNeg)) (fun y11 : Int64 => (if 0 ≤ (lg_cmp y11 0) then (letb (u7 + y11) (fun y14 : Int64 => (G_X12_missOf_21 N I J u5 u6 n y14 (u9 + 1)))) else (letb (u7 + (-y11)) (fun y15 : Int64 => (G_X12_missOf_21 N I J u5 u6 n y15 (u9 + 1))))))) else none) else none)) else none))
set_option maxHeartbeats 4000000 in
theorem okG_X12_missOf_21 {E : GE} {T : TM} {I : IM} {J : JM} {P : PM} {N : Nat} {u5 : Int32} {u6 : Int32} {x : Int32 × IM} (hL : LOK T P) : ∀ (n : Nat) (u7 : Int64) (u9 : Int32), G_X12_missOf_21 N I J u5 u6 n u7 u9 = some x → WW E mX12_missOf (RM 6 0 0) (ZM E 0 0 (some (.int x.1)) T x.2 J P) 0 0 T I J P 21 [(0, .ref 101), (5, .int u5), (6, .int u6), (7, .long u7), (9, .int u9)] [] := by
  intro n
  induction n with
  | zero =>
    intro u7 u9 hF
    cases hF
  | succ n ih =>
    intro u7 u9 hF
    rw [G_X12_missOf_21] at hF
    refine r_iload dX12_missOf_21 rfl ?_
    refine r_iload dX12_missOf_23 rfl ?_
    refine r_icmp_ge (tgt := 90) dX12_missOf_25 (by decide) (fun h3 => ?_) (fun h3 => ?_)
    · have hF := tw hF h3
      refine r_lload dX12_missOf_90 rfl ?_
      refine r_ldc2 dX12_missOf_92 kw_1332 ?_
      refine r_lcmp dX12_missOf_95 ?_
      refine r_if_le (tgt := 105) dX12_missOf_96 (by decide) (fun h4 => ?_) (fun h4 => ?_)
      · have hF := tw hF h4
        refine r_lload dX12_missOf_105 rfl ?_
        refine r_l2i dX12_missOf_107 ?_
        obtain rfl := Option.some.inj hF
        exact r_ireturn rfl rfl dX12_missOf_108 (Nat.le_of_ble_eq_true rfl) (Nat.le_of_ble_eq_true rfl)
      · have hF := fw hF h4
        refine r_ldcw dX12_missOf_99 kw_1333 ?_
        refine r_goto (tgt := 108) dX12_missOf_102 (by decide) ?_
        obtain rfl := Option.some.inj hF
        exact r_ireturn rfl rfl dX12_missOf_108 (Nat.le_of_ble_eq_true rfl) (Nat.le_of_ble_eq_true rfl)
    · have hF := fw hF h3
      refine r_iload dX12_missOf_28 rfl ?_
      refine r_aload_n dX12_missOf_30 rfl rfl ?_
      refine r_getP lk_X12_56 (ln_101 hL) (pp_101_39 hL) dX12_missOf_31 ?_
      refine r_iload dX12_missOf_34 rfl ?_
      obtain ⟨g5, hF⟩ := gd hF
      refine r_iald (ln_116 hL) (by rw [(nl_116 hL)]; exact g5) dX12_missOf_36 ?_
      refine r_icmp_ge (tgt := 90) dX12_missOf_37 (by decide) (fun h7 => ?_) (fun h7 => ?_)
      · have hF := tw hF h7
        refine r_lload dX12_missOf_90 rfl ?_
        refine r_ldc2 dX12_missOf_92 kw_1332 ?_
        refine r_lcmp dX12_missOf_95 ?_
        refine r_if_le (tgt := 105) dX12_missOf_96 (by decide) (fun h8 => ?_) (fun h8 => ?_)
        · have hF := tw hF h8
          refine r_lload dX12_missOf_105 rfl ?_
          refine r_l2i dX12_missOf_107 ?_
          obtain rfl := Option.some.inj hF
          exact r_ireturn rfl rfl dX12_missOf_108 (Nat.le_of_ble_eq_true rfl) (Nat.le_of_ble_eq_true rfl)
        · have hF := fw hF h8
          refine r_ldcw dX12_missOf_99 kw_1333 ?_
          refine r_goto (tgt := 108) dX12_missOf_102 (by decide) ?_
          obtain rfl := Option.some.inj hF
          exact r_ireturn rfl rfl dX12_missOf_108 (Nat.le_of_ble_eq_true rfl) (Nat.le_of_ble_eq_true rfl)
      · have hF := fw hF h7
        refine r_aload_n dX12_missOf_40 rfl rfl ?_
        refine r_getP lk_X12_41 (ln_101 hL) (pp_101_32 hL) dX12_missOf_41 ?_
        refine r_iload dX12_missOf_44 rfl ?_
        obtain ⟨g9, hF⟩ := gd hF
        refine r_iald (ln_111 hL) (by rw [(nl_111 hL)]; exact g9) dX12_missOf_46 ?_
        refine r_i2l dX12_missOf_47 ?_
        refine r_aload_n dX12_missOf_48 rfl rfl ?_
        refine r_getP lk_X12_59 (ln_101 hL) (pp_101_40 hL) dX12_missOf_49 ?_
        refine r_bipush (v := 40) dX12_missOf_52 (by decide) ?_
        refine r_iload dX12_missOf_54 rfl ?_
        refine r_imul dX12_missOf_56 ?_
        refine r_iload dX12_missOf_57 rfl ?_
        refine r_iadd dX12_missOf_59 ?_
        obtain ⟨g10, hF⟩ := gd hF
        refine r_lald (ln_117 hL) (by rw [(nl_117 hL)]; exact g10) dX12_missOf_60 ?_
        refine r_lsub dX12_missOf_61 ?_
        refine r_letL hF (fun y11 hF => ?_)
        refine r_lstore (ls' := [(10, .long y11), (0, .ref 101), (5, .int u5), (6, .int u6), (7, .long u7), (9, .int u9)]) dX12_missOf_62 (by decide) rfl ?_
        refine r_lload dX12_missOf_64 rfl ?_
        refine r_lload dX12_missOf_66 rfl ?_
        refine r_lconst (v := 0) dX12_missOf_68 (by decide) ?_
        refine r_lcmp dX12_missOf_69 ?_
        refine r_if_ge (tgt := 79) dX12_missOf_70 (by decide) (fun h13 => ?_) (fun h13 => ?_)
        · have hF := tw hF h13
          refine r_lload dX12_missOf_79 rfl ?_
          refine r_ladd dX12_missOf_81 ?_
          refine r_letL hF (fun y14 hF => ?_)
          refine r_lstore (ls' := [(7, .long y14), (10, .long y11), (0, .ref 101), (5, .int u5), (6, .int u6), (9, .int u9)]) dX12_missOf_82 (by decide) rfl ?_
          refine r_iinc (v := (u9 + 1)) (ls' := [(9, .int (u9 + 1)), (7, .long y14), (10, .long y11), (0, .ref 101), (5, .int u5), (6, .int u6)]) dX12_missOf_84 rfl rfl (by decide) rfl ?_
          refine r_goto (tgt := 21) dX12_missOf_87 (by decide) ?_
          refine r_sub (ls' := [(0, .ref 101), (5, .int u5), (6, .int u6), (7, .long y14), (9, .int (u9 + 1))]) [3, 4, 5, 1, 0] rfl ?_
          exact ih y14 (u9 + 1) hF
        · have hF := fw hF h13
          refine r_lload dX12_missOf_73 rfl ?_
          refine r_lneg dX12_missOf_75 ?_
          refine r_goto (tgt := 81) dX12_missOf_76 (by decide) ?_
          refine r_ladd dX12_missOf_81 ?_
          refine r_letL hF (fun y15 hF => ?_)
          refine r_lstore (ls' := [(7, .long y15), (10, .long y11), (0, .ref 101), (5, .int u5), (6, .int u6), (9, .int u9)]) dX12_missOf_82 (by decide) rfl ?_
          refine r_iinc (v := (u9 + 1)) (ls' := [(9, .int (u9 + 1)), (7, .long y15), (10, .long y11), (0, .ref 101), (5, .int u5), (6, .int u6)]) dX12_missOf_84 rfl rfl (by decide) rfl ?_
          refine r_goto (tgt := 21) dX12_missOf_87 (by decide) ?_
          refine r_sub (ls' := [(0, .ref 101), (5, .int u5), (6, .int u6), (7, .long y15), (9, .int (u9 + 1))]) [3, 4, 5, 1, 0] rfl ?_
          exact ih y15 (u9 + 1) hF
def F_X12_missOf (N : Nat) (I : IM) (J : JM) (p1 : Int32) (p2 : Int32) (p3 : Int32) (p4 : Int32) (p5 : Int32) : Option (Int32 × IM) := ((F_X12_films N I 111 400 p1 p2 p3 p4).bind (fun x1 => (G_X12_missOf_21 N x1.2 J p5 x1.1 N 0 0)))
set_option maxHeartbeats 4000000 in
theorem ok_X12_missOf {E : GE} {T : TM} {I : IM} {J : JM} {P : PM} {p1 : Int32} {p2 : Int32} {p3 : Int32} {p4 : Int32} {p5 : Int32} {N : Nat} {x : Int32 × IM} (hL : LOK T P) (hF : F_X12_missOf N I J p1 p2 p3 p4 p5 = some x) : Ctr E mX12_missOf 6 0 0 [.ref 101, .int p1, .int p2, .int p3, .int p4, .int p5] T I J P (some (.int x.1)) T x.2 J P := by
  unfold F_X12_missOf at hF
  refine ctr_intro rfl (by decide) (Nat.le_of_ble_eq_true rfl) ?_
  refine r_sub (ls' := [(5, .int p5), (4, .int p4), (3, .int p3), (2, .int p2), (1, .int p1), (0, .ref 101)]) [5, 4, 3, 2, 1, 0] rfl ?_
  refine r_aload_n dX12_missOf_0 rfl rfl ?_
  refine r_aload_n dX12_missOf_1 rfl rfl ?_
  refine r_getP lk_X12_41 (ln_101 hL) (pp_101_32 hL) dX12_missOf_2 ?_
  refine r_iload_n dX12_missOf_5 rfl rfl ?_
  refine r_iload_n dX12_missOf_6 rfl rfl ?_
  refine r_iload_n dX12_missOf_7 rfl rfl ?_
  refine r_iload dX12_missOf_8 rfl ?_
  obtain ⟨x1, hx1, hF⟩ := bnd hF
  refine c_virt_i (As := [.ref 111, .int p1, .int p2, .int p3, .int p4]) mi_X12_films kw_1290 ks_51 kw_1288 rfl (by decide) (ln_101 hL) (ok_X12_films hL (ln_111 hL) (nl_111 hL) hx1) rfl rfl (Nat.le_of_ble_eq_true rfl) ⟨Nat.le_of_ble_eq_true rfl, Nat.le_of_ble_eq_true rfl⟩ ⟨Nat.le_of_ble_eq_true rfl, Nat.le_of_ble_eq_true rfl⟩ dX12_missOf_10 ?_
  refine r_istore (ls' := [(6, .int x1.1), (5, .int p5), (4, .int p4), (3, .int p3), (2, .int p2), (1, .int p1), (0, .ref 101)]) dX12_missOf_13 (by decide) rfl ?_
  refine r_lconst (v := 0) dX12_missOf_15 (by decide) ?_
  refine r_lstore (ls' := [(7, .long 0), (6, .int x1.1), (5, .int p5), (4, .int p4), (3, .int p3), (2, .int p2), (1, .int p1), (0, .ref 101)]) dX12_missOf_16 (by decide) rfl ?_
  refine r_iconst (v := 0) dX12_missOf_18 (by decide) ?_
  refine r_istore (ls' := [(9, .int 0), (7, .long 0), (6, .int x1.1), (5, .int p5), (4, .int p4), (3, .int p3), (2, .int p2), (1, .int p1), (0, .ref 101)]) dX12_missOf_19 (by decide) rfl ?_
  refine r_sub (ls' := [(0, .ref 101), (5, .int p5), (6, .int x1.1), (7, .long 0), (9, .int 0)]) [8, 3, 2, 1, 0] rfl ?_
  exact okG_X12_missOf_21 hL   N 0 0 hF
def F_X12_isShelf (p1 : Int32) : Int32 := (F_X12_in p1 0 3)
set_option maxHeartbeats 4000000 in
theorem ok_X12_isShelf {E : GE} {T : TM} {I : IM} {J : JM} {P : PM} {p1 : Int32} (hL : LOK T P) : Ctr E mX12_isShelf 1 0 0 [.int p1] T I J P (some (.int (F_X12_isShelf p1))) T I J P := by
  generalize hF : F_X12_isShelf p1 = r
  unfold F_X12_isShelf at hF
  refine ctr_intro rfl (by decide) (Nat.le_of_ble_eq_true rfl) ?_
  refine r_sub (ls' := [(0, .int p1)]) [0] rfl ?_
  refine r_iload_n dX12_isShelf_0 rfl rfl ?_
  refine r_iconst (v := 0) dX12_isShelf_1 (by decide) ?_
  refine r_iconst (v := 3) dX12_isShelf_2 (by decide) ?_
  refine c_static_i (As := [.int p1, .int 0, .int 3]) mi_X12_in kw_1085 kw_1084 (ok_X12_in hL  (p1 := p1) (p2 := 0) (p3 := 3)) rfl rfl (Nat.le_of_ble_eq_true rfl) ⟨Nat.le_of_ble_eq_true rfl, Nat.le_of_ble_eq_true rfl⟩ ⟨Nat.le_of_ble_eq_true rfl, Nat.le_of_ble_eq_true rfl⟩ dX12_isShelf_3 ?_
  obtain rfl := hF
  exact r_ireturn rfl (nz_X12_in p1 0 3) dX12_isShelf_6 (Nat.le_of_ble_eq_true rfl) (Nat.le_of_ble_eq_true rfl)
theorem nz_X12_isShelf (p1 : Int32) : narrow .boolean (.int (F_X12_isShelf p1)) = .int (F_X12_isShelf p1) := by
  unfold F_X12_isShelf
  repeat' split
  all_goals first | (with_reducible exact nz_X12_in ..) | rfl
def F_X12_lacksSort (I : IM) (p1 : Int32) (p2 : Int32) : Option (Int32) := (if inb p1 4 = true then (if 0 ≤ (I 115 p1.toNatClampNeg) then (if inb p1 4 = true then (if (I 115 p1.toNatClampNeg) = p2 then (some 0) else (some (-13))) else none) else (some (-11))) else none)
set_option maxHeartbeats 4000000 in
theorem ok_X12_lacksSort {E : GE} {T : TM} {I : IM} {J : JM} {P : PM} {p1 : Int32} {p2 : Int32} {x : Int32} (hL : LOK T P) (hF : F_X12_lacksSort I p1 p2 = some x) : Ctr E mX12_lacksSort 0 0 0 [.ref 101, .int p1, .int p2] T I J P (some (.int x)) T I J P := by
  unfold F_X12_lacksSort at hF
  refine ctr_intro rfl (by decide) (Nat.le_of_ble_eq_true rfl) ?_
  refine r_sub (ls' := [(2, .int p2), (1, .int p1), (0, .ref 101)]) [2, 1, 0] rfl ?_
  refine r_aload_n dX12_lacksSort_0 rfl rfl ?_
  refine r_getP lk_X12_53 (ln_101 hL) (pp_101_38 hL) dX12_lacksSort_1 ?_
  refine r_iload_n dX12_lacksSort_4 rfl rfl ?_
  obtain ⟨g1, hF⟩ := gd hF
  refine r_iald (ln_115 hL) (by rw [(nl_115 hL)]; exact g1) dX12_lacksSort_5 ?_
  refine r_if_ge (tgt := 14) dX12_lacksSort_6 (by decide) (fun h2 => ?_) (fun h2 => ?_)
  · have hF := tw hF h2
    refine r_aload_n dX12_lacksSort_14 rfl rfl ?_
    refine r_getP lk_X12_53 (ln_101 hL) (pp_101_38 hL) dX12_lacksSort_15 ?_
    refine r_iload_n dX12_lacksSort_18 rfl rfl ?_
    obtain ⟨g3, hF⟩ := gd hF
    refine r_iald (ln_115 hL) (by rw [(nl_115 hL)]; exact g3) dX12_lacksSort_19 ?_
    refine r_iload_n dX12_lacksSort_20 rfl rfl ?_
    refine r_icmp_eq (tgt := 29) dX12_lacksSort_21 (by decide) (fun h4 => ?_) (fun h4 => ?_)
    · have hF := tw hF h4
      refine r_iconst (v := 0) dX12_lacksSort_29 (by decide) ?_
      obtain rfl := Option.some.inj hF
      exact r_ireturn rfl rfl dX12_lacksSort_30 (Nat.le_of_ble_eq_true rfl) (Nat.le_of_ble_eq_true rfl)
    · have hF := fw hF h4
      refine r_bipush (v := (-13)) dX12_lacksSort_24 (by decide) ?_
      refine r_goto (tgt := 30) dX12_lacksSort_26 (by decide) ?_
      obtain rfl := Option.some.inj hF
      exact r_ireturn rfl rfl dX12_lacksSort_30 (Nat.le_of_ble_eq_true rfl) (Nat.le_of_ble_eq_true rfl)
  · have hF := fw hF h2
    refine r_bipush (v := (-11)) dX12_lacksSort_9 (by decide) ?_
    refine r_goto (tgt := 30) dX12_lacksSort_11 (by decide) ?_
    obtain rfl := Option.some.inj hF
    exact r_ireturn rfl rfl dX12_lacksSort_30 (Nat.le_of_ble_eq_true rfl) (Nat.le_of_ble_eq_true rfl)
def F_X12_miss (N : Nat) (I : IM) (J : JM) (p1 : Int32) (p2 : Int32) (p3 : Int32) (p4 : Int32) (p5 : Int32) : Option (Int32 × IM) := (if (F_X12_isFall I p1 p2 p3 p4) = 0 then (some ((-1), I)) else (if (F_X12_isShelf p5) = 0 then (some ((-1), I)) else ((F_X12_lacksSort I p5 2).bind (fun x3 => (if x3 = 0 then ((F_X12_missOf N I J p1 p2 p3 p4 p5).bind (fun x5 => (some (x5.1, x5.2)))) else (some (x3, I)))))))
set_option maxHeartbeats 4000000 in
theorem ok_X12_miss {E : GE} {T : TM} {I : IM} {J : JM} {P : PM} {p1 : Int32} {p2 : Int32} {p3 : Int32} {p4 : Int32} {p5 : Int32} {N : Nat} {x : Int32 × IM} (hL : LOK T P) (hF : F_X12_miss N I J p1 p2 p3 p4 p5 = some x) : Ctr E mX12_miss 7 0 0 [.ref 101, .int p1, .int p2, .int p3, .int p4, .int p5] T I J P (some (.int x.1)) T x.2 J P := by
  unfold F_X12_miss at hF
  refine ctr_intro rfl (by decide) (Nat.le_of_ble_eq_true rfl) ?_
  refine r_sub (ls' := [(5, .int p5), (4, .int p4), (3, .int p3), (2, .int p2), (1, .int p1), (0, .ref 101)]) [5, 4, 3, 2, 1, 0] rfl ?_
  refine r_aload_n dX12_miss_0 rfl rfl ?_
  refine r_iload_n dX12_miss_1 rfl rfl ?_
  refine r_iload_n dX12_miss_2 rfl rfl ?_
  refine r_iload_n dX12_miss_3 rfl rfl ?_
  refine r_iload dX12_miss_4 rfl ?_
  refine c_virt_i (As := [.int p1, .int p2, .int p3, .int p4]) mi_X12_isFall kw_1208 ks_39 kw_1206 rfl (by decide) (ln_101 hL) (ok_X12_isFall hL  (p1 := p1) (p2 := p2) (p3 := p3) (p4 := p4)) rfl rfl (Nat.le_of_ble_eq_true rfl) ⟨Nat.le_of_ble_eq_true rfl, Nat.le_of_ble_eq_true rfl⟩ ⟨Nat.le_of_ble_eq_true rfl, Nat.le_of_ble_eq_true rfl⟩ dX12_miss_6 ?_
  refine r_if_eq (tgt := 20) dX12_miss_9 (by decide) (fun h1 => ?_) (fun h1 => ?_)
  · have hF := tw hF h1
    refine r_iconst (v := (-1)) dX12_miss_20 (by decide) ?_
    obtain rfl := Option.some.inj hF
    exact r_ireturn rfl rfl dX12_miss_21 (Nat.le_of_ble_eq_true rfl) (Nat.le_of_ble_eq_true rfl)
  · have hF := fw hF h1
    refine r_iload dX12_miss_12 rfl ?_
    refine c_static_i (As := [.int p5]) mi_X12_isShelf kw_1322 kw_1321 (ok_X12_isShelf hL  (p1 := p5)) rfl rfl (Nat.le_of_ble_eq_true rfl) ⟨Nat.le_of_ble_eq_true rfl, Nat.le_of_ble_eq_true rfl⟩ ⟨Nat.le_of_ble_eq_true rfl, Nat.le_of_ble_eq_true rfl⟩ dX12_miss_14 ?_
    refine r_if_ne (tgt := 22) dX12_miss_17 (by decide) (fun h2 => ?_) (fun h2 => ?_)
    · have hF := fw hF h2
      refine r_aload_n dX12_miss_22 rfl rfl ?_
      refine r_iload dX12_miss_23 rfl ?_
      refine r_iconst (v := 2) dX12_miss_25 (by decide) ?_
      obtain ⟨x3, hx3, hF⟩ := bnd hF
      refine c_virt_i (As := [.int p5, .int 2]) mi_X12_lacksSort kw_1326 ks_53 kw_1324 rfl (by decide) (ln_101 hL) (ok_X12_lacksSort hL  hx3) rfl rfl (Nat.le_of_ble_eq_true rfl) ⟨Nat.le_of_ble_eq_true rfl, Nat.le_of_ble_eq_true rfl⟩ ⟨Nat.le_of_ble_eq_true rfl, Nat.le_of_ble_eq_true rfl⟩ dX12_miss_26 ?_
      refine r_istore (ls' := [(6, .int x3), (5, .int p5), (4, .int p4), (3, .int p3), (2, .int p2), (1, .int p1), (0, .ref 101)]) dX12_miss_29 (by decide) rfl ?_
      refine r_iload dX12_miss_31 rfl ?_
      refine r_if_eq (tgt := 41) dX12_miss_33 (by decide) (fun h4 => ?_) (fun h4 => ?_)
      · have hF := tw hF h4
        refine r_aload_n dX12_miss_41 rfl rfl ?_
        refine r_iload_n dX12_miss_42 rfl rfl ?_
        refine r_iload_n dX12_miss_43 rfl rfl ?_
        refine r_iload_n dX12_miss_44 rfl rfl ?_
        refine r_iload dX12_miss_45 rfl ?_
        refine r_iload dX12_miss_47 rfl ?_
        obtain ⟨x5, hx5, hF⟩ := bnd hF
        refine c_virt_i (As := [.int p1, .int p2, .int p3, .int p4, .int p5]) mi_X12_missOf kw_1330 ks_54 kw_1328 rfl (by decide) (ln_101 hL) (ok_X12_missOf hL  hx5) rfl rfl (Nat.le_of_ble_eq_true rfl) ⟨Nat.le_of_ble_eq_true rfl, Nat.le_of_ble_eq_true rfl⟩ ⟨Nat.le_of_ble_eq_true rfl, Nat.le_of_ble_eq_true rfl⟩ dX12_miss_49 ?_
        obtain rfl := Option.some.inj hF
        exact r_ireturn rfl rfl dX12_miss_52 (Nat.le_of_ble_eq_true rfl) (Nat.le_of_ble_eq_true rfl)
      · have hF := fw hF h4
        refine r_iload dX12_miss_36 rfl ?_
        refine r_goto (tgt := 52) dX12_miss_38 (by decide) ?_
        obtain rfl := Option.some.inj hF
        exact r_ireturn rfl rfl dX12_miss_52 (Nat.le_of_ble_eq_true rfl) (Nat.le_of_ble_eq_true rfl)
    · have hF := tw hF h2
      refine r_iconst (v := (-1)) dX12_miss_20 (by decide) ?_
      obtain rfl := Option.some.inj hF
      exact r_ireturn rfl rfl dX12_miss_21 (Nat.le_of_ble_eq_true rfl) (Nat.le_of_ble_eq_true rfl)
def G_X12_fit_65 (N : Nat) (J : JM) (u1 : Int32) (u2 : Int32) (u3 : Int32) (u4 : Int32) (u5 : Int32) (u6 : Int32) (u8 : Int32) : Nat → Int32 → Int32 → Int32 → IM → Option (Int32 × IM)
  | 0, _, _, _, _ => none
  | n + 1, u9, u10, u11, Iv => (if 64 ≤ u11 then (if inb u6 6 = true then (letb (up2 Iv 103 u6.toNatClampNeg u8) (fun I11 : IM => (some (u9, I11)))) else none) else (if inb u6 6 = true then (letb (up2 Iv 103 u6.toNatClampNeg u11) (fun I13 : IM => ((F_X12_missOf N I13 J u1 u2 u3 u4 u5).bind (fun x14 => (if u10 < 0 then (G_X12_fit_65 N J u1 u2 u3 u4 u5 u6 u8 n u11 x14.1 (u11 + 1) x14.2) else (if u10 ≤ x14.1 then (G_X12_fit_65 N J u1 u2 u3 u4 u5 u6 u8 n u9 u10 (u11 + 1) x14.2) else (G_X12_fit_65 N J u1 u2 u3 u4 u5 u6 u8 n u11 x14.1 (u11 + 1) x14.2))))))) else none))
set_option maxHeartbeats 4000000 in
theorem okG_X12_fit_65 {E : GE} {T : TM} {J : JM} {P : PM} {N : Nat} {u1 : Int32} {u2 : Int32} {u3 : Int32} {u4 : Int32} {u5 : Int32} {u6 : Int32} {u8 : Int32} {x : Int32 × IM} (hL : LOK T P) : ∀ (n : Nat) (u9 : Int32) (u10 : Int32) (u11 : Int32) (Iv : IM), G_X12_fit_65 N J u1 u2 u3 u4 u5 u6 u8 n u9 u10 u11 Iv = some x → WW E mX12_fit (RM 7 0 0) (ZM E 0 0 (some (.int x.1)) T x.2 J P) 0 0 T Iv J P 65 [(0, .ref 101), (1, .int u1), (2, .int u2), (3, .int u3), (4, .int u4), (5, .int u5), (6, .int u6), (8, .int u8), (9, .int u9), (10, .int u10), (11, .int u11)] [] := by
  intro n
  induction n with
  | zero =>
    intro u9 u10 u11 Iv hF
    cases hF
  | succ n ih =>
    intro u9 u10 u11 Iv hF
    rw [G_X12_fit_65] at hF
    refine r_iload dX12_fit_65 rfl ?_
    refine r_bipush (v := 64) dX12_fit_67 (by decide) ?_
    refine r_icmp_ge (tgt := 120) dX12_fit_69 (by decide) (fun h9 => ?_) (fun h9 => ?_)
    · have hF := tw hF h9
      refine r_aload_n dX12_fit_120 rfl rfl ?_
      refine r_getP lk_X12_13 (ln_101 hL) (pp_101_2 hL) dX12_fit_121 ?_
      refine r_iload dX12_fit_124 rfl ?_
      refine r_iload dX12_fit_126 rfl ?_
      obtain ⟨g10, hF⟩ := gd hF
      refine r_iast (ln_103 hL) (by rw [(nl_103 hL)]; exact g10) dX12_fit_128 ?_
      refine r_letI hF (fun I11 hF => ?_)
      refine r_iload dX12_fit_129 rfl ?_
      obtain rfl := Option.some.inj hF
      exact r_ireturn rfl rfl dX12_fit_131 (Nat.le_of_ble_eq_true rfl) (Nat.le_of_ble_eq_true rfl)
    · have hF := fw hF h9
      refine r_aload_n dX12_fit_72 rfl rfl ?_
      refine r_getP lk_X12_13 (ln_101 hL) (pp_101_2 hL) dX12_fit_73 ?_
      refine r_iload dX12_fit_76 rfl ?_
      refine r_iload dX12_fit_78 rfl ?_
      obtain ⟨g12, hF⟩ := gd hF
      refine r_iast (ln_103 hL) (by rw [(nl_103 hL)]; exact g12) dX12_fit_80 ?_
      refine r_letI hF (fun I13 hF => ?_)
      refine r_aload_n dX12_fit_81 rfl rfl ?_
      refine r_iload_n dX12_fit_82 rfl rfl ?_
      refine r_iload_n dX12_fit_83 rfl rfl ?_
      refine r_iload_n dX12_fit_84 rfl rfl ?_
      refine r_iload dX12_fit_85 rfl ?_
      refine r_iload dX12_fit_87 rfl ?_
      obtain ⟨x14, hx14, hF⟩ := bnd hF
      refine c_virt_i (As := [.int u1, .int u2, .int u3, .int u4, .int u5]) mi_X12_missOf kw_1330 ks_54 kw_1328 rfl (by decide) (ln_101 hL) (ok_X12_missOf hL  hx14) rfl rfl (Nat.le_of_ble_eq_true rfl) ⟨Nat.le_of_ble_eq_true rfl, Nat.le_of_ble_eq_true rfl⟩ ⟨Nat.le_of_ble_eq_true rfl, Nat.le_of_ble_eq_true rfl⟩ dX12_fit_89 ?_
      refine r_istore (ls' := [(12, .int x14.1), (0, .ref 101), (1, .int u1), (2, .int u2), (3, .int u3), (4, .int u4), (5, .int u5), (6, .int u6), (8, .int u8), (9, .int u9), (10, .int u10), (11, .int u11)]) dX12_fit_92 (by decide) rfl ?_
      refine r_iload dX12_fit_94 rfl ?_
      refine r_if_lt (tgt := 106) dX12_fit_96 (by decide) (fun h16 => ?_) (fun h16 => ?_)
      · have hF := tw hF h16
        refine r_iload dX12_fit_106 rfl ?_
        refine r_istore (ls' := [(10, .int x14.1), (12, .int x14.1), (0, .ref 101), (1, .int u1), (2, .int u2), (3, .int u3), (4, .int u4), (5, .int u5), (6, .int u6), (8, .int u8), (9, .int u9), (11, .int u11)]) dX12_fit_108 (by decide) rfl ?_
        refine r_iload dX12_fit_110 rfl ?_
        refine r_istore (ls' := [(9, .int u11), (10, .int x14.1), (12, .int x14.1), (0, .ref 101), (1, .int u1), (2, .int u2), (3, .int u3), (4, .int u4), (5, .int u5), (6, .int u6), (8, .int u8), (11, .int u11)]) dX12_fit_112 (by decide) rfl ?_
        refine r_iinc (v := (u11 + 1)) (ls' := [(11, .int (u11 + 1)), (9, .int u11), (10, .int x14.1), (12, .int x14.1), (0, .ref 101), (1, .int u1), (2, .int u2), (3, .int u3), (4, .int u4), (5, .int u5), (6, .int u6), (8, .int u8)]) dX12_fit_114 rfl rfl (by decide) rfl ?_
        refine r_goto (tgt := 65) dX12_fit_117 (by decide) ?_
        refine r_sub (ls' := [(0, .ref 101), (1, .int u1), (2, .int u2), (3, .int u3), (4, .int u4), (5, .int u5), (6, .int u6), (8, .int u8), (9, .int u11), (10, .int x14.1), (11, .int (u11 + 1))]) [4, 5, 6, 7, 8, 9, 10, 11, 1, 2, 0] rfl ?_
        exact ih u11 x14.1 (u11 + 1) x14.2 hF
      · have hF := fw hF h16
        refine r_iload dX12_fit_99 rfl ?_
        refine r_iload dX12_fit_101 rfl ?_
        refine r_icmp_ge (tgt := 114) dX12_fit_103 (by decide) (fun h18 => ?_) (fun h18 => ?_)
        · have hF := tw hF h18
          refine r_iinc (v := (u11 + 1)) (ls' := [(11, .int (u11 + 1)), (12, .int x14.1), (0, .ref 101), (1, .int u1), (2, .int u2), (3, .int u3), (4, .int u4), (5, .int u5), (6, .int u6), (8, .int u8), (9, .int u9), (10, .int u10)]) dX12_fit_114 rfl rfl (by decide) rfl ?_
          refine r_goto (tgt := 65) dX12_fit_117 (by decide) ?_
          refine r_sub (ls' := [(0, .ref 101), (1, .int u1), (2, .int u2), (3, .int u3), (4, .int u4), (5, .int u5), (6, .int u6), (8, .int u8), (9, .int u9), (10, .int u10), (11, .int (u11 + 1))]) [2, 3, 4, 5, 6, 7, 8, 9, 10, 11, 0] rfl ?_
          exact ih u9 u10 (u11 + 1) x14.2 hF
        · have hF := fw hF h18
          refine r_iload dX12_fit_106 rfl ?_
          refine r_istore (ls' := [(10, .int x14.1), (12, .int x14.1), (0, .ref 101), (1, .int u1), (2, .int u2), (3, .int u3), (4, .int u4), (5, .int u5), (6, .int u6), (8, .int u8), (9, .int u9), (11, .int u11)]) dX12_fit_108 (by decide) rfl ?_
          refine r_iload dX12_fit_110 rfl ?_
          refine r_istore (ls' := [(9, .int u11), (10, .int x14.1), (12, .int x14.1), (0, .ref 101), (1, .int u1), (2, .int u2), (3, .int u3), (4, .int u4), (5, .int u5), (6, .int u6), (8, .int u8), (11, .int u11)]) dX12_fit_112 (by decide) rfl ?_
          refine r_iinc (v := (u11 + 1)) (ls' := [(11, .int (u11 + 1)), (9, .int u11), (10, .int x14.1), (12, .int x14.1), (0, .ref 101), (1, .int u1), (2, .int u2), (3, .int u3), (4, .int u4), (5, .int u5), (6, .int u6), (8, .int u8)]) dX12_fit_114 rfl rfl (by decide) rfl ?_
          refine r_goto (tgt := 65) dX12_fit_117 (by decide) ?_
          refine r_sub (ls' := [(0, .ref 101), (1, .int u1), (2, .int u2), (3, .int u3), (4, .int u4), (5, .int u5), (6, .int u6), (8, .int u8), (9, .int u11), (10, .int x14.1), (11, .int (u11 + 1))]) [4, 5, 6, 7, 8, 9, 10, 11, 1, 2, 0] rfl ?_
          exact ih u11 x14.1 (u11 + 1) x14.2 hF
def F_X12_fit (N : Nat) (I : IM) (J : JM) (p1 : Int32) (p2 : Int32) (p3 : Int32) (p4 : Int32) (p5 : Int32) (p6 : Int32) : Option (Int32 × IM) := (if (F_X12_isFall I p1 p2 p3 p4) = 0 then (some ((-1), I)) else (if (F_X12_isShelf p5) = 0 then (some ((-1), I)) else (if (F_X12_isLaw p6) = 0 then (some ((-1), I)) else ((F_X12_lacksSort I p5 2).bind (fun x4 => (if x4 = 0 then (if inb p6 6 = true then (letb (I 103 p6.toNatClampNeg) (fun y7 : Int32 => (G_X12_fit_65 N J p1 p2 p3 p4 p5 p6 y7 N 0 (-1) 0 I))) else none) else (some (x4, I))))))))
set_option maxHeartbeats 4000000 in
theorem ok_X12_fit {E : GE} {T : TM} {I : IM} {J : JM} {P : PM} {p1 : Int32} {p2 : Int32} {p3 : Int32} {p4 : Int32} {p5 : Int32} {p6 : Int32} {N : Nat} {x : Int32 × IM} (hL : LOK T P) (hF : F_X12_fit N I J p1 p2 p3 p4 p5 p6 = some x) : Ctr E mX12_fit 7 0 0 [.ref 101, .int p1, .int p2, .int p3, .int p4, .int p5, .int p6] T I J P (some (.int x.1)) T x.2 J P := by
  unfold F_X12_fit at hF
  refine ctr_intro rfl (by decide) (Nat.le_of_ble_eq_true rfl) ?_
  refine r_sub (ls' := [(6, .int p6), (5, .int p5), (4, .int p4), (3, .int p3), (2, .int p2), (1, .int p1), (0, .ref 101)]) [6, 5, 4, 3, 2, 1, 0] rfl ?_
  refine r_aload_n dX12_fit_0 rfl rfl ?_
  refine r_iload_n dX12_fit_1 rfl rfl ?_
  refine r_iload_n dX12_fit_2 rfl rfl ?_
  refine r_iload_n dX12_fit_3 rfl rfl ?_
  refine r_iload dX12_fit_4 rfl ?_
  refine c_virt_i (As := [.int p1, .int p2, .int p3, .int p4]) mi_X12_isFall kw_1208 ks_39 kw_1206 rfl (by decide) (ln_101 hL) (ok_X12_isFall hL  (p1 := p1) (p2 := p2) (p3 := p3) (p4 := p4)) rfl rfl (Nat.le_of_ble_eq_true rfl) ⟨Nat.le_of_ble_eq_true rfl, Nat.le_of_ble_eq_true rfl⟩ ⟨Nat.le_of_ble_eq_true rfl, Nat.le_of_ble_eq_true rfl⟩ dX12_fit_6 ?_
  refine r_if_eq (tgt := 28) dX12_fit_9 (by decide) (fun h1 => ?_) (fun h1 => ?_)
  · have hF := tw hF h1
    refine r_iconst (v := (-1)) dX12_fit_28 (by decide) ?_
    obtain rfl := Option.some.inj hF
    exact r_ireturn rfl rfl dX12_fit_29 (Nat.le_of_ble_eq_true rfl) (Nat.le_of_ble_eq_true rfl)
  · have hF := fw hF h1
    refine r_iload dX12_fit_12 rfl ?_
    refine c_static_i (As := [.int p5]) mi_X12_isShelf kw_1322 kw_1321 (ok_X12_isShelf hL  (p1 := p5)) rfl rfl (Nat.le_of_ble_eq_true rfl) ⟨Nat.le_of_ble_eq_true rfl, Nat.le_of_ble_eq_true rfl⟩ ⟨Nat.le_of_ble_eq_true rfl, Nat.le_of_ble_eq_true rfl⟩ dX12_fit_14 ?_
    refine r_if_eq (tgt := 28) dX12_fit_17 (by decide) (fun h2 => ?_) (fun h2 => ?_)
    · have hF := tw hF h2
      refine r_iconst (v := (-1)) dX12_fit_28 (by decide) ?_
      obtain rfl := Option.some.inj hF
      exact r_ireturn rfl rfl dX12_fit_29 (Nat.le_of_ble_eq_true rfl) (Nat.le_of_ble_eq_true rfl)
    · have hF := fw hF h2
      refine r_iload dX12_fit_20 rfl ?_
      refine c_static_i (As := [.int p6]) mi_X12_isLaw kw_1184 kw_1183 (ok_X12_isLaw hL  (p1 := p6)) rfl rfl (Nat.le_of_ble_eq_true rfl) ⟨Nat.le_of_ble_eq_true rfl, Nat.le_of_ble_eq_true rfl⟩ ⟨Nat.le_of_ble_eq_true rfl, Nat.le_of_ble_eq_true rfl⟩ dX12_fit_22 ?_
      refine r_if_ne (tgt := 30) dX12_fit_25 (by decide) (fun h3 => ?_) (fun h3 => ?_)
      · have hF := fw hF h3
        refine r_aload_n dX12_fit_30 rfl rfl ?_
        refine r_iload dX12_fit_31 rfl ?_
        refine r_iconst (v := 2) dX12_fit_33 (by decide) ?_
        obtain ⟨x4, hx4, hF⟩ := bnd hF
        refine c_virt_i (As := [.int p5, .int 2]) mi_X12_lacksSort kw_1326 ks_53 kw_1324 rfl (by decide) (ln_101 hL) (ok_X12_lacksSort hL  hx4) rfl rfl (Nat.le_of_ble_eq_true rfl) ⟨Nat.le_of_ble_eq_true rfl, Nat.le_of_ble_eq_true rfl⟩ ⟨Nat.le_of_ble_eq_true rfl, Nat.le_of_ble_eq_true rfl⟩ dX12_fit_34 ?_
        refine r_istore (ls' := [(7, .int x4), (6, .int p6), (5, .int p5), (4, .int p4), (3, .int p3), (2, .int p2), (1, .int p1), (0, .ref 101)]) dX12_fit_37 (by decide) rfl ?_
        refine r_iload dX12_fit_39 rfl ?_
        refine r_if_eq (tgt := 47) dX12_fit_41 (by decide) (fun h5 => ?_) (fun h5 => ?_)
        · have hF := tw hF h5
          refine r_aload_n dX12_fit_47 rfl rfl ?_
          refine r_getP lk_X12_13 (ln_101 hL) (pp_101_2 hL) dX12_fit_48 ?_
          refine r_iload dX12_fit_51 rfl ?_
          obtain ⟨g6, hF⟩ := gd hF
          refine r_iald (ln_103 hL) (by rw [(nl_103 hL)]; exact g6) dX12_fit_53 ?_
          refine r_letV hF (fun y7 hF => ?_)
          refine r_istore (ls' := [(8, .int y7), (7, .int x4), (6, .int p6), (5, .int p5), (4, .int p4), (3, .int p3), (2, .int p2), (1, .int p1), (0, .ref 101)]) dX12_fit_54 (by decide) rfl ?_
          refine r_iconst (v := 0) dX12_fit_56 (by decide) ?_
          refine r_istore (ls' := [(9, .int 0), (8, .int y7), (7, .int x4), (6, .int p6), (5, .int p5), (4, .int p4), (3, .int p3), (2, .int p2), (1, .int p1), (0, .ref 101)]) dX12_fit_57 (by decide) rfl ?_
          refine r_iconst (v := (-1)) dX12_fit_59 (by decide) ?_
          refine r_istore (ls' := [(10, .int (-1)), (9, .int 0), (8, .int y7), (7, .int x4), (6, .int p6), (5, .int p5), (4, .int p4), (3, .int p3), (2, .int p2), (1, .int p1), (0, .ref 101)]) dX12_fit_60 (by decide) rfl ?_
          refine r_iconst (v := 0) dX12_fit_62 (by decide) ?_
          refine r_istore (ls' := [(11, .int 0), (10, .int (-1)), (9, .int 0), (8, .int y7), (7, .int x4), (6, .int p6), (5, .int p5), (4, .int p4), (3, .int p3), (2, .int p2), (1, .int p1), (0, .ref 101)]) dX12_fit_63 (by decide) rfl ?_
          refine r_sub (ls' := [(0, .ref 101), (1, .int p1), (2, .int p2), (3, .int p3), (4, .int p4), (5, .int p5), (6, .int p6), (8, .int y7), (9, .int 0), (10, .int (-1)), (11, .int 0)]) [11, 10, 9, 8, 7, 6, 5, 3, 2, 1, 0] rfl ?_
          exact okG_X12_fit_65 hL   N 0 (-1) 0 I hF
        · have hF := fw hF h5
          refine r_iload dX12_fit_44 rfl ?_
          obtain rfl := Option.some.inj hF
          exact r_ireturn rfl rfl dX12_fit_46 (Nat.le_of_ble_eq_true rfl) (Nat.le_of_ble_eq_true rfl)
      · have hF := tw hF h3
        refine r_iconst (v := (-1)) dX12_fit_28 (by decide) ?_
        obtain rfl := Option.some.inj hF
        exact r_ireturn rfl rfl dX12_fit_29 (Nat.le_of_ble_eq_true rfl) (Nat.le_of_ble_eq_true rfl)
def G_X12_toss_49 (N : Nat) (I : IM) (u1 : Int32) (u2 : Int32) (u3 : Int32) (u4 : Int32) : Nat → Int32 → Int32 → Option (Int32 × IM)
  | 0, _, _ => none
  | n + 1, u5, u6 => (if inb u6 5 = true then (if u5 < (I 104 u6.toNatClampNeg) then ((F_X12_falls N I u1 u2 (((u3 + u6) + 34) - ((u3 + u6) + 34) / 36 * 36) u4).bind (fun x9 => (if x9.1 = 0 then (some ((-2147483648), x9.2)) else (some ((F_X12_squareOf x9.2), x9.2))))) else (if inb u6 5 = true then (letb (u5 - (I 104 u6.toNatClampNeg)) (fun y12 : Int32 => (G_X12_toss_49 N I u1 u2 u3 u4 n y12 (u6 + 1)))) else none)) else none)
set_option maxHeartbeats 4000000 in
theorem okG_X12_toss_49 {E : GE} {T : TM} {I : IM} {J : JM} {P : PM} {N : Nat} {u1 : Int32} {u2 : Int32} {u3 : Int32} {u4 : Int32} {x : Int32 × IM} (hL : LOK T P) : ∀ (n : Nat) (u5 : Int32) (u6 : Int32), G_X12_toss_49 N I u1 u2 u3 u4 n u5 u6 = some x → WW E mX12_toss (RM 6 0 0) (ZM E 0 0 (some (.int x.1)) T x.2 J P) 0 0 T I J P 49 [(0, .ref 101), (1, .int u1), (2, .int u2), (3, .int u3), (4, .int u4), (5, .int u5), (6, .int u6)] [] := by
  intro n
  induction n with
  | zero =>
    intro u5 u6 hF
    cases hF
  | succ n ih =>
    intro u5 u6 hF
    rw [G_X12_toss_49] at hF
    refine r_iload dX12_toss_49 rfl ?_
    refine r_aload_n dX12_toss_51 rfl rfl ?_
    refine r_getP lk_X12_16 (ln_101 hL) (pp_101_3 hL) dX12_toss_52 ?_
    refine r_iload dX12_toss_55 rfl ?_
    obtain ⟨g6, hF⟩ := gd hF
    refine r_iald (ln_104 hL) (by rw [(nl_104 hL)]; exact g6) dX12_toss_57 ?_
    refine r_icmp_lt (tgt := 79) dX12_toss_58 (by decide) (fun h8 => ?_) (fun h8 => ?_)
    · have hF := tw hF h8
      refine r_aload_n dX12_toss_79 rfl rfl ?_
      refine r_iload_n dX12_toss_80 rfl rfl ?_
      refine r_iload_n dX12_toss_81 rfl rfl ?_
      refine r_iload_n dX12_toss_82 rfl rfl ?_
      refine r_iload dX12_toss_83 rfl ?_
      refine r_iadd dX12_toss_85 ?_
      refine r_bipush (v := 34) dX12_toss_86 (by decide) ?_
      refine r_iadd dX12_toss_88 ?_
      refine r_bipush (v := 36) dX12_toss_89 (by decide) ?_
      refine r_irem dX12_toss_91 (by decide) ?_
      refine r_iload dX12_toss_92 rfl ?_
      obtain ⟨x9, hx9, hF⟩ := bnd hF
      refine c_virt_i (As := [.int u1, .int u2, .int (((u3 + u6) + 34) - ((u3 + u6) + 34) / 36 * 36), .int u4]) mi_X12_falls kw_1270 ks_48 kw_1268 rfl (by decide) (ln_101 hL) (ok_X12_falls hL  hx9) rfl rfl (Nat.le_of_ble_eq_true rfl) ⟨Nat.le_of_ble_eq_true rfl, Nat.le_of_ble_eq_true rfl⟩ ⟨Nat.le_of_ble_eq_true rfl, Nat.le_of_ble_eq_true rfl⟩ dX12_toss_94 ?_
      refine r_if_eq (tgt := 107) dX12_toss_97 (by decide) (fun h10 => ?_) (fun h10 => ?_)
      · have hF := tw hF h10
        refine r_ldcw dX12_toss_107 kw_1259 ?_
        obtain rfl := Option.some.inj hF
        exact r_ireturn rfl rfl dX12_toss_110 (Nat.le_of_ble_eq_true rfl) (Nat.le_of_ble_eq_true rfl)
      · have hF := fw hF h10
        refine r_aload_n dX12_toss_100 rfl rfl ?_
        refine c_virt_i (As := []) mi_X12_squareOf kw_1278 ks_50 kw_1276 rfl (by decide) (ln_101 hL) (ok_X12_squareOf hL  ) rfl rfl (Nat.le_of_ble_eq_true rfl) ⟨Nat.le_of_ble_eq_true rfl, Nat.le_of_ble_eq_true rfl⟩ ⟨Nat.le_of_ble_eq_true rfl, Nat.le_of_ble_eq_true rfl⟩ dX12_toss_101 ?_
        refine r_goto (tgt := 110) dX12_toss_104 (by decide) ?_
        obtain rfl := Option.some.inj hF
        exact r_ireturn rfl rfl dX12_toss_110 (Nat.le_of_ble_eq_true rfl) (Nat.le_of_ble_eq_true rfl)
    · have hF := fw hF h8
      refine r_iload dX12_toss_61 rfl ?_
      refine r_aload_n dX12_toss_63 rfl rfl ?_
      refine r_getP lk_X12_16 (ln_101 hL) (pp_101_3 hL) dX12_toss_64 ?_
      refine r_iload dX12_toss_67 rfl ?_
      obtain ⟨g11, hF⟩ := gd hF
      refine r_iald (ln_104 hL) (by rw [(nl_104 hL)]; exact g11) dX12_toss_69 ?_
      refine r_isub dX12_toss_70 ?_
      refine r_letV hF (fun y12 hF => ?_)
      refine r_istore (ls' := [(5, .int y12), (0, .ref 101), (1, .int u1), (2, .int u2), (3, .int u3), (4, .int u4), (6, .int u6)]) dX12_toss_71 (by decide) rfl ?_
      refine r_iinc (v := (u6 + 1)) (ls' := [(6, .int (u6 + 1)), (5, .int y12), (0, .ref 101), (1, .int u1), (2, .int u2), (3, .int u3), (4, .int u4)]) dX12_toss_73 rfl rfl (by decide) rfl ?_
      refine r_goto (tgt := 49) dX12_toss_76 (by decide) ?_
      refine r_sub (ls' := [(0, .ref 101), (1, .int u1), (2, .int u2), (3, .int u3), (4, .int u4), (5, .int y12), (6, .int (u6 + 1))]) [2, 3, 4, 5, 6, 1, 0] rfl ?_
      exact ih y12 (u6 + 1) hF
def F_X12_toss (N : Nat) (I : IM) (p1 : Int32) (p2 : Int32) (p3 : Int32) (p4 : Int32) : Option (Int32 × IM) := (if (F_X12_isFall I p1 p2 p3 p4) = 0 then (some ((-2147483648), I)) else (letb (up2 I 101 5 (((I 101 5) * 1103515245) + 12345)) (fun I2 : IM => ((F_X12_handMany N I2).bind (fun x3 => (if ¬ x3 = 0 then (letb (((Int32.toUInt32 (I2 101 5) >>> (Int32.toUInt32 16 &&& Int32.toUInt32 31)).toInt32) - ((Int32.toUInt32 (I2 101 5) >>> (Int32.toUInt32 16 &&& Int32.toUInt32 31)).toInt32) / x3 * x3) (fun y5 : Int32 => (G_X12_toss_49 N I2 p1 p2 p3 p4 N y5 0))) else none))))))
set_option maxHeartbeats 4000000 in
theorem ok_X12_toss {E : GE} {T : TM} {I : IM} {J : JM} {P : PM} {p1 : Int32} {p2 : Int32} {p3 : Int32} {p4 : Int32} {N : Nat} {x : Int32 × IM} (hL : LOK T P) (hF : F_X12_toss N I p1 p2 p3 p4 = some x) : Ctr E mX12_toss 6 0 0 [.ref 101, .int p1, .int p2, .int p3, .int p4] T I J P (some (.int x.1)) T x.2 J P := by
  unfold F_X12_toss at hF
  refine ctr_intro rfl (by decide) (Nat.le_of_ble_eq_true rfl) ?_
  refine r_sub (ls' := [(4, .int p4), (3, .int p3), (2, .int p2), (1, .int p1), (0, .ref 101)]) [4, 3, 2, 1, 0] rfl ?_
  refine r_aload_n dX12_toss_0 rfl rfl ?_
  refine r_iload_n dX12_toss_1 rfl rfl ?_
  refine r_iload_n dX12_toss_2 rfl rfl ?_
  refine r_iload_n dX12_toss_3 rfl rfl ?_
  refine r_iload dX12_toss_4 rfl ?_
  refine c_virt_i (As := [.int p1, .int p2, .int p3, .int p4]) mi_X12_isFall kw_1208 ks_39 kw_1206 rfl (by decide) (ln_101 hL) (ok_X12_isFall hL  (p1 := p1) (p2 := p2) (p3 := p3) (p4 := p4)) rfl rfl (Nat.le_of_ble_eq_true rfl) ⟨Nat.le_of_ble_eq_true rfl, Nat.le_of_ble_eq_true rfl⟩ ⟨Nat.le_of_ble_eq_true rfl, Nat.le_of_ble_eq_true rfl⟩ dX12_toss_6 ?_
  refine r_if_ne (tgt := 16) dX12_toss_9 (by decide) (fun h1 => ?_) (fun h1 => ?_)
  · have hF := fw hF h1
    refine r_aload_n dX12_toss_16 rfl rfl ?_
    refine r_aload_n dX12_toss_17 rfl rfl ?_
    refine r_getI lk_X12_22 (ln_101 hL) dX12_toss_18 ?_
    refine r_ldcw dX12_toss_21 kw_1342 ?_
    refine r_imul dX12_toss_24 ?_
    refine r_sipush (v := 12345) dX12_toss_25 (by decide) ?_
    refine r_iadd dX12_toss_28 ?_
    refine r_putI lk_X12_22 (Or.inl rfl) (ln_101 hL) rfl rfl dX12_toss_29 ?_
    refine r_letI hF (fun I2 hF => ?_)
    refine r_aload_n dX12_toss_32 rfl rfl ?_
    refine r_getI lk_X12_22 (ln_101 hL) dX12_toss_33 ?_
    refine r_bipush (v := 16) dX12_toss_36 (by decide) ?_
    refine r_iushr dX12_toss_38 ?_
    refine r_aload_n dX12_toss_39 rfl rfl ?_
    obtain ⟨x3, hx3, hF⟩ := bnd hF
    refine c_virt_i (As := []) mi_X12_handMany kw_1192 ks_37 kw_1190 rfl (by decide) (ln_101 hL) (ok_X12_handMany hL  hx3) rfl rfl (Nat.le_of_ble_eq_true rfl) ⟨Nat.le_of_ble_eq_true rfl, Nat.le_of_ble_eq_true rfl⟩ ⟨Nat.le_of_ble_eq_true rfl, Nat.le_of_ble_eq_true rfl⟩ dX12_toss_40 ?_
    obtain ⟨g4, hF⟩ := gd hF
    refine r_irem dX12_toss_43 g4 ?_
    refine r_letV hF (fun y5 hF => ?_)
    refine r_istore (ls' := [(5, .int y5), (4, .int p4), (3, .int p3), (2, .int p2), (1, .int p1), (0, .ref 101)]) dX12_toss_44 (by decide) rfl ?_
    refine r_iconst (v := 0) dX12_toss_46 (by decide) ?_
    refine r_istore (ls' := [(6, .int 0), (5, .int y5), (4, .int p4), (3, .int p3), (2, .int p2), (1, .int p1), (0, .ref 101)]) dX12_toss_47 (by decide) rfl ?_
    refine r_sub (ls' := [(0, .ref 101), (1, .int p1), (2, .int p2), (3, .int p3), (4, .int p4), (5, .int y5), (6, .int 0)]) [6, 5, 4, 3, 2, 1, 0] rfl ?_
    exact okG_X12_toss_49 hL   N y5 0 hF
  · have hF := tw hF h1
    refine r_ldcw dX12_toss_12 kw_1259 ?_
    obtain rfl := Option.some.inj hF
    exact r_ireturn rfl rfl dX12_toss_15 (Nat.le_of_ble_eq_true rfl) (Nat.le_of_ble_eq_true rfl)
def F_X12_seed (I : IM) (p1 : Int32) : Option (Int32 × IM) := (letb (I 101 5) (fun y1 : Int32 => (letb (up2 I 101 5 p1) (fun I2 : IM => (some (y1, I2))))))
set_option maxHeartbeats 4000000 in
theorem ok_X12_seed {E : GE} {T : TM} {I : IM} {J : JM} {P : PM} {p1 : Int32} {x : Int32 × IM} (hL : LOK T P) (hF : F_X12_seed I p1 = some x) : Ctr E mX12_seed 0 0 0 [.ref 101, .int p1] T I J P (some (.int x.1)) T x.2 J P := by
  unfold F_X12_seed at hF
  refine ctr_intro rfl (by decide) (Nat.le_of_ble_eq_true rfl) ?_
  refine r_sub (ls' := [(1, .int p1), (0, .ref 101)]) [1, 0] rfl ?_
  refine r_aload_n dX12_seed_0 rfl rfl ?_
  refine r_getI lk_X12_22 (ln_101 hL) dX12_seed_1 ?_
  refine r_letV hF (fun y1 hF => ?_)
  refine r_istore_n (ls' := [(2, .int y1), (1, .int p1), (0, .ref 101)]) dX12_seed_4 rfl (by decide) rfl ?_
  refine r_aload_n dX12_seed_5 rfl rfl ?_
  refine r_iload_n dX12_seed_6 rfl rfl ?_
  refine r_putI lk_X12_22 (Or.inl rfl) (ln_101 hL) rfl rfl dX12_seed_7 ?_
  refine r_letI hF (fun I2 hF => ?_)
  refine r_iload_n dX12_seed_10 rfl rfl ?_
  obtain rfl := Option.some.inj hF
  exact r_ireturn rfl rfl dX12_seed_11 (Nat.le_of_ble_eq_true rfl) (Nat.le_of_ble_eq_true rfl)
def G_X12_findRows_9 (N : Nat) (u1 : Int32) : Nat → IM → Option (IM)
  | 0, _ => none
  | n + 1, Iv => (if u1 ≤ (Iv 101 37) then (some Iv) else (if (F_X12_isLanded Iv) = 0 then ((F_X12_ticksOn Iv).bind (fun x7 => (if inb (3 * (x7 101 37)) 60 = true then (letb (up2 x7 114 (3 * (x7 101 37)).toNatClampNeg (x7 101 24)) (fun I9 : IM => (if inb ((3 * (I9 101 37)) + 1) 60 = true then (letb (up2 I9 114 ((3 * (I9 101 37)) + 1).toNatClampNeg (I9 101 25)) (fun I11 : IM => (if inb ((3 * (I11 101 37)) + 2) 60 = true then (letb (up2 I11 114 ((3 * (I11 101 37)) + 2).toNatClampNeg (I11 101 26)) (fun I13 : IM => (letb (up2 I13 101 37 ((I13 101 37) + 1)) (fun I14 : IM => (G_X12_findRows_9 N u1 n I14))))) else none))) else none))) else none))) else (some Iv)))
set_option maxHeartbeats 4000000 in
theorem okG_X12_findRows_9 {E : GE} {T : TM} {J : JM} {P : PM} {N : Nat} {u1 : Int32} {x : IM} (hL : LOK T P) : ∀ (n : Nat) (Iv : IM), G_X12_findRows_9 N u1 n Iv = some x → WW E mX12_findRows (RM 5 0 0) (ZM E 0 0 none T x J P) 0 0 T Iv J P 9 [(0, .ref 101), (1, .int u1)] [] := by
  intro n
  induction n with
  | zero =>
    intro Iv hF
    cases hF
  | succ n ih =>
    intro Iv hF
    rw [G_X12_findRows_9] at hF
    refine r_aload_n dX12_findRows_9 rfl rfl ?_
    refine r_getI lk_X12_338 (ln_101 hL) dX12_findRows_10 ?_
    refine r_iload_n dX12_findRows_13 rfl rfl ?_
    refine r_icmp_ge (tgt := 90) dX12_findRows_14 (by decide) (fun h4 => ?_) (fun h4 => ?_)
    · have hF := tw hF h4
      obtain rfl := Option.some.inj hF
      exact r_return rfl dX12_findRows_90 (Nat.le_of_ble_eq_true rfl) (Nat.le_of_ble_eq_true rfl)
    · have hF := fw hF h4
      refine r_aload_n dX12_findRows_17 rfl rfl ?_
      refine c_virt_i (As := []) mi_X12_isLanded kw_1231 ks_43 kw_1229 rfl (by decide) (ln_101 hL) (ok_X12_isLanded hL  ) rfl rfl (Nat.le_of_ble_eq_true rfl) ⟨Nat.le_of_ble_eq_true rfl, Nat.le_of_ble_eq_true rfl⟩ ⟨Nat.le_of_ble_eq_true rfl, Nat.le_of_ble_eq_true rfl⟩ dX12_findRows_18 ?_
      refine r_if_ne (tgt := 90) dX12_findRows_21 (by decide) (fun h6 => ?_) (fun h6 => ?_)
      · have hF := fw hF h6
        obtain rfl := Option.some.inj hF
        exact r_return rfl dX12_findRows_90 (Nat.le_of_ble_eq_true rfl) (Nat.le_of_ble_eq_true rfl)
      · have hF := tw hF h6
        refine r_aload_n dX12_findRows_24 rfl rfl ?_
        obtain ⟨x7, hx7, hF⟩ := bnd hF
        refine c_virt_v (As := []) mi_X12_ticksOn kw_1235 ks_44 kw_1233 rfl (by decide) (ln_101 hL) (ok_X12_ticksOn hL  hx7) rfl rfl (Nat.le_of_ble_eq_true rfl) ⟨Nat.le_of_ble_eq_true rfl, Nat.le_of_ble_eq_true rfl⟩ ⟨Nat.le_of_ble_eq_true rfl, Nat.le_of_ble_eq_true rfl⟩ dX12_findRows_25 ?_
        refine r_aload_n dX12_findRows_28 rfl rfl ?_
        refine r_getP lk_X12_50 (ln_101 hL) (pp_101_35 hL) dX12_findRows_29 ?_
        refine r_iconst (v := 3) dX12_findRows_32 (by decide) ?_
        refine r_aload_n dX12_findRows_33 rfl rfl ?_
        refine r_getI lk_X12_338 (ln_101 hL) dX12_findRows_34 ?_
        refine r_imul dX12_findRows_37 ?_
        refine r_aload_n dX12_findRows_38 rfl rfl ?_
        refine r_getI lk_X12_235 (ln_101 hL) dX12_findRows_39 ?_
        obtain ⟨g8, hF⟩ := gd hF
        refine r_iast (ln_114 hL) (by rw [(nl_114 hL)]; exact g8) dX12_findRows_42 ?_
        refine r_letI hF (fun I9 hF => ?_)
        refine r_aload_n dX12_findRows_43 rfl rfl ?_
        refine r_getP lk_X12_50 (ln_101 hL) (pp_101_35 hL) dX12_findRows_44 ?_
        refine r_iconst (v := 3) dX12_findRows_47 (by decide) ?_
        refine r_aload_n dX12_findRows_48 rfl rfl ?_
        refine r_getI lk_X12_338 (ln_101 hL) dX12_findRows_49 ?_
        refine r_imul dX12_findRows_52 ?_
        refine r_iconst (v := 1) dX12_findRows_53 (by decide) ?_
        refine r_iadd dX12_findRows_54 ?_
        refine r_aload_n dX12_findRows_55 rfl rfl ?_
        refine r_getI lk_X12_238 (ln_101 hL) dX12_findRows_56 ?_
        obtain ⟨g10, hF⟩ := gd hF
        refine r_iast (ln_114 hL) (by rw [(nl_114 hL)]; exact g10) dX12_findRows_59 ?_
        refine r_letI hF (fun I11 hF => ?_)
        refine r_aload_n dX12_findRows_60 rfl rfl ?_
        refine r_getP lk_X12_50 (ln_101 hL) (pp_101_35 hL) dX12_findRows_61 ?_
        refine r_iconst (v := 3) dX12_findRows_64 (by decide) ?_
        refine r_aload_n dX12_findRows_65 rfl rfl ?_
        refine r_getI lk_X12_338 (ln_101 hL) dX12_findRows_66 ?_
        refine r_imul dX12_findRows_69 ?_
        refine r_iconst (v := 2) dX12_findRows_70 (by decide) ?_
        refine r_iadd dX12_findRows_71 ?_
        refine r_aload_n dX12_findRows_72 rfl rfl ?_
        refine r_getI lk_X12_241 (ln_101 hL) dX12_findRows_73 ?_
        obtain ⟨g12, hF⟩ := gd hF
        refine r_iast (ln_114 hL) (by rw [(nl_114 hL)]; exact g12) dX12_findRows_76 ?_
        refine r_letI hF (fun I13 hF => ?_)
        refine r_aload_n dX12_findRows_77 rfl rfl ?_
        refine r_dup dX12_findRows_78 rfl ?_
        refine r_getI lk_X12_338 (ln_101 hL) dX12_findRows_79 ?_
        refine r_iconst (v := 1) dX12_findRows_82 (by decide) ?_
        refine r_iadd dX12_findRows_83 ?_
        refine r_putI lk_X12_338 (Or.inl rfl) (ln_101 hL) rfl rfl dX12_findRows_84 ?_
        refine r_letI hF (fun I14 hF => ?_)
        refine r_goto (tgt := 9) dX12_findRows_87 (by decide) ?_
        refine r_sub (ls' := [(0, .ref 101), (1, .int u1)]) [0, 1] rfl ?_
        exact ih I14 hF
def F_X12_findRows (N : Nat) (I : IM) (p1 : Int32) : Option (IM) := ((F_X12_takesAir I).bind (fun x1 => (letb (up2 x1 101 37 0) (fun I2 : IM => (G_X12_findRows_9 N p1 N I2)))))
set_option maxHeartbeats 4000000 in
theorem ok_X12_findRows {E : GE} {T : TM} {I : IM} {J : JM} {P : PM} {p1 : Int32} {N : Nat} {x : IM} (hL : LOK T P) (hF : F_X12_findRows N I p1 = some x) : Ctr E mX12_findRows 5 0 0 [.ref 101, .int p1] T I J P none T x J P := by
  unfold F_X12_findRows at hF
  refine ctr_intro rfl (by decide) (Nat.le_of_ble_eq_true rfl) ?_
  refine r_sub (ls' := [(1, .int p1), (0, .ref 101)]) [1, 0] rfl ?_
  refine r_aload_n dX12_findRows_0 rfl rfl ?_
  obtain ⟨x1, hx1, hF⟩ := bnd hF
  refine c_virt_v (As := []) mi_X12_takesAir kw_1227 ks_42 kw_1225 rfl (by decide) (ln_101 hL) (ok_X12_takesAir hL  hx1) rfl rfl (Nat.le_of_ble_eq_true rfl) ⟨Nat.le_of_ble_eq_true rfl, Nat.le_of_ble_eq_true rfl⟩ ⟨Nat.le_of_ble_eq_true rfl, Nat.le_of_ble_eq_true rfl⟩ dX12_findRows_1 ?_
  refine r_aload_n dX12_findRows_4 rfl rfl ?_
  refine r_iconst (v := 0) dX12_findRows_5 (by decide) ?_
  refine r_putI lk_X12_338 (Or.inl rfl) (ln_101 hL) rfl rfl dX12_findRows_6 ?_
  refine r_letI hF (fun I2 hF => ?_)
  refine r_sub (ls' := [(0, .ref 101), (1, .int p1)]) [1, 0] rfl ?_
  exact okG_X12_findRows_9 hL   N I2 hF
def G_X12_prove_39 (N : Nat) : Nat → Int32 → IM → Option (Int32 × IM)
  | 0, _, _ => none
  | n + 1, u2, Iv => (if (3 * (Iv 101 36)) ≤ u2 then (some ((Iv 101 36), Iv)) else (if inb u2 60 = true then (if inb u2 60 = true then (letb (up2 Iv 113 u2.toNatClampNeg (Iv 114 u2.toNatClampNeg)) (fun I9 : IM => (G_X12_prove_39 N n (u2 + 1) I9))) else none) else none))
set_option maxHeartbeats 4000000 in
theorem okG_X12_prove_39 {E : GE} {T : TM} {J : JM} {P : PM} {N : Nat} {x : Int32 × IM} (hL : LOK T P) : ∀ (n : Nat) (u2 : Int32) (Iv : IM), G_X12_prove_39 N n u2 Iv = some x → WW E mX12_prove (RM 6 0 0) (ZM E 0 0 (some (.int x.1)) T x.2 J P) 0 0 T Iv J P 39 [(0, .ref 101), (2, .int u2)] [] := by
  intro n
  induction n with
  | zero =>
    intro u2 Iv hF
    cases hF
  | succ n ih =>
    intro u2 Iv hF
    rw [G_X12_prove_39] at hF
    refine r_iload_n dX12_prove_39 rfl rfl ?_
    refine r_iconst (v := 3) dX12_prove_40 (by decide) ?_
    refine r_aload_n dX12_prove_41 rfl rfl ?_
    refine r_getI lk_X12_198 (ln_101 hL) dX12_prove_42 ?_
    refine r_imul dX12_prove_45 ?_
    refine r_icmp_ge (tgt := 67) dX12_prove_46 (by decide) (fun h6 => ?_) (fun h6 => ?_)
    · have hF := tw hF h6
      refine r_aload_n dX12_prove_67 rfl rfl ?_
      refine r_getI lk_X12_198 (ln_101 hL) dX12_prove_68 ?_
      obtain rfl := Option.some.inj hF
      exact r_ireturn rfl rfl dX12_prove_71 (Nat.le_of_ble_eq_true rfl) (Nat.le_of_ble_eq_true rfl)
    · have hF := fw hF h6
      refine r_aload_n dX12_prove_49 rfl rfl ?_
      refine r_getP lk_X12_47 (ln_101 hL) (pp_101_34 hL) dX12_prove_50 ?_
      refine r_iload_n dX12_prove_53 rfl rfl ?_
      refine r_aload_n dX12_prove_54 rfl rfl ?_
      refine r_getP lk_X12_50 (ln_101 hL) (pp_101_35 hL) dX12_prove_55 ?_
      refine r_iload_n dX12_prove_58 rfl rfl ?_
      obtain ⟨g7, hF⟩ := gd hF
      refine r_iald (ln_114 hL) (by rw [(nl_114 hL)]; exact g7) dX12_prove_59 ?_
      obtain ⟨g8, hF⟩ := gd hF
      refine r_iast (ln_113 hL) (by rw [(nl_113 hL)]; exact g8) dX12_prove_60 ?_
      refine r_letI hF (fun I9 hF => ?_)
      refine r_iinc (v := (u2 + 1)) (ls' := [(2, .int (u2 + 1)), (0, .ref 101)]) dX12_prove_61 rfl rfl (by decide) rfl ?_
      refine r_goto (tgt := 39) dX12_prove_64 (by decide) ?_
      refine r_sub (ls' := [(0, .ref 101), (2, .int (u2 + 1))]) [1, 0] rfl ?_
      exact ih (u2 + 1) I9 hF
def F_X12_prove (N : Nat) (I : IM) (p1 : Int32) : Option (Int32 × IM) := (if (F_X12_in p1 1 20) = 0 then (some ((-1), I)) else (if 0 ≤ (I 106 0) then ((F_X12_findRows N I p1).bind (fun x3 => (letb (up2 x3 101 36 (x3 101 37)) (fun I4 : IM => (G_X12_prove_39 N N 0 I4))))) else (some ((-4), I))))
set_option maxHeartbeats 4000000 in
theorem ok_X12_prove {E : GE} {T : TM} {I : IM} {J : JM} {P : PM} {p1 : Int32} {N : Nat} {x : Int32 × IM} (hL : LOK T P) (hF : F_X12_prove N I p1 = some x) : Ctr E mX12_prove 6 0 0 [.ref 101, .int p1] T I J P (some (.int x.1)) T x.2 J P := by
  unfold F_X12_prove at hF
  refine ctr_intro rfl (by decide) (Nat.le_of_ble_eq_true rfl) ?_
  refine r_sub (ls' := [(1, .int p1), (0, .ref 101)]) [1, 0] rfl ?_
  refine r_iload_n dX12_prove_0 rfl rfl ?_
  refine r_iconst (v := 1) dX12_prove_1 (by decide) ?_
  refine r_bipush (v := 20) dX12_prove_2 (by decide) ?_
  refine c_static_i (As := [.int p1, .int 1, .int 20]) mi_X12_in kw_1085 kw_1084 (ok_X12_in hL  (p1 := p1) (p2 := 1) (p3 := 20)) rfl rfl (Nat.le_of_ble_eq_true rfl) ⟨Nat.le_of_ble_eq_true rfl, Nat.le_of_ble_eq_true rfl⟩ ⟨Nat.le_of_ble_eq_true rfl, Nat.le_of_ble_eq_true rfl⟩ dX12_prove_4 ?_
  refine r_if_ne (tgt := 12) dX12_prove_7 (by decide) (fun h1 => ?_) (fun h1 => ?_)
  · have hF := fw hF h1
    refine r_aload_n dX12_prove_12 rfl rfl ?_
    refine r_getP lk_X12_26 (ln_101 hL) (pp_101_6 hL) dX12_prove_13 ?_
    refine r_iconst (v := 0) dX12_prove_16 (by decide) ?_
    refine r_iald (ln_106 hL) (by rw [(nl_106 hL)]; decide) dX12_prove_17 ?_
    refine r_if_ge (tgt := 24) dX12_prove_18 (by decide) (fun h2 => ?_) (fun h2 => ?_)
    · have hF := tw hF h2
      refine r_aload_n dX12_prove_24 rfl rfl ?_
      refine r_iload_n dX12_prove_25 rfl rfl ?_
      obtain ⟨x3, hx3, hF⟩ := bnd hF
      refine c_virt_v (As := [.int p1]) mi_X12_findRows kw_1353 ks_55 kw_1351 rfl (by decide) (ln_101 hL) (ok_X12_findRows hL  hx3) rfl rfl (Nat.le_of_ble_eq_true rfl) ⟨Nat.le_of_ble_eq_true rfl, Nat.le_of_ble_eq_true rfl⟩ ⟨Nat.le_of_ble_eq_true rfl, Nat.le_of_ble_eq_true rfl⟩ dX12_prove_26 ?_
      refine r_aload_n dX12_prove_29 rfl rfl ?_
      refine r_aload_n dX12_prove_30 rfl rfl ?_
      refine r_getI lk_X12_338 (ln_101 hL) dX12_prove_31 ?_
      refine r_putI lk_X12_198 (Or.inl rfl) (ln_101 hL) rfl rfl dX12_prove_34 ?_
      refine r_letI hF (fun I4 hF => ?_)
      refine r_iconst (v := 0) dX12_prove_37 (by decide) ?_
      refine r_istore_n (ls' := [(2, .int 0), (1, .int p1), (0, .ref 101)]) dX12_prove_38 rfl (by decide) rfl ?_
      refine r_sub (ls' := [(0, .ref 101), (2, .int 0)]) [2, 0] rfl ?_
      exact okG_X12_prove_39 hL   N 0 I4 hF
    · have hF := fw hF h2
      refine r_bipush (v := (-4)) dX12_prove_21 (by decide) ?_
      obtain rfl := Option.some.inj hF
      exact r_ireturn rfl rfl dX12_prove_23 (Nat.le_of_ble_eq_true rfl) (Nat.le_of_ble_eq_true rfl)
  · have hF := tw hF h1
    refine r_iconst (v := (-1)) dX12_prove_10 (by decide) ?_
    obtain rfl := Option.some.inj hF
    exact r_ireturn rfl rfl dX12_prove_11 (Nat.le_of_ble_eq_true rfl) (Nat.le_of_ble_eq_true rfl)
def F_X12_isRow (I : IM) (p1 : Int32) (p2 : Int32) : Int32 := (if (F_X12_in p1 0 ((I 101 36) - 1)) = 0 then 0 else (if (F_X12_in p2 0 2) = 0 then 0 else 1))
set_option maxHeartbeats 4000000 in
theorem ok_X12_isRow {E : GE} {T : TM} {I : IM} {J : JM} {P : PM} {p1 : Int32} {p2 : Int32} (hL : LOK T P) : Ctr E mX12_isRow 1 0 0 [.ref 101, .int p1, .int p2] T I J P (some (.int (F_X12_isRow I p1 p2))) T I J P := by
  generalize hF : F_X12_isRow I p1 p2 = r
  unfold F_X12_isRow at hF
  refine ctr_intro rfl (by decide) (Nat.le_of_ble_eq_true rfl) ?_
  refine r_sub (ls' := [(2, .int p2), (1, .int p1), (0, .ref 101)]) [2, 1, 0] rfl ?_
  refine r_iload_n dX12_isRow_0 rfl rfl ?_
  refine r_iconst (v := 0) dX12_isRow_1 (by decide) ?_
  refine r_aload_n dX12_isRow_2 rfl rfl ?_
  refine r_getI lk_X12_198 (ln_101 hL) dX12_isRow_3 ?_
  refine r_iconst (v := 1) dX12_isRow_6 (by decide) ?_
  refine r_isub dX12_isRow_7 ?_
  refine c_static_i (As := [.int p1, .int 0, .int ((I 101 36) - 1)]) mi_X12_in kw_1085 kw_1084 (ok_X12_in hL  (p1 := p1) (p2 := 0) (p3 := ((I 101 36) - 1))) rfl rfl (Nat.le_of_ble_eq_true rfl) ⟨Nat.le_of_ble_eq_true rfl, Nat.le_of_ble_eq_true rfl⟩ ⟨Nat.le_of_ble_eq_true rfl, Nat.le_of_ble_eq_true rfl⟩ dX12_isRow_8 ?_
  refine r_if_eq (tgt := 27) dX12_isRow_11 (by decide) (fun h1 => ?_) (fun h1 => ?_)
  · have hF := tw hF h1
    refine r_iconst (v := 0) dX12_isRow_27 (by decide) ?_
    obtain rfl := hF
    exact r_ireturn rfl rfl dX12_isRow_28 (Nat.le_of_ble_eq_true rfl) (Nat.le_of_ble_eq_true rfl)
  · have hF := fw hF h1
    refine r_iload_n dX12_isRow_14 rfl rfl ?_
    refine r_iconst (v := 0) dX12_isRow_15 (by decide) ?_
    refine r_iconst (v := 2) dX12_isRow_16 (by decide) ?_
    refine c_static_i (As := [.int p2, .int 0, .int 2]) mi_X12_in kw_1085 kw_1084 (ok_X12_in hL  (p1 := p2) (p2 := 0) (p3 := 2)) rfl rfl (Nat.le_of_ble_eq_true rfl) ⟨Nat.le_of_ble_eq_true rfl, Nat.le_of_ble_eq_true rfl⟩ ⟨Nat.le_of_ble_eq_true rfl, Nat.le_of_ble_eq_true rfl⟩ dX12_isRow_17 ?_
    refine r_if_eq (tgt := 27) dX12_isRow_20 (by decide) (fun h2 => ?_) (fun h2 => ?_)
    · have hF := tw hF h2
      refine r_iconst (v := 0) dX12_isRow_27 (by decide) ?_
      obtain rfl := hF
      exact r_ireturn rfl rfl dX12_isRow_28 (Nat.le_of_ble_eq_true rfl) (Nat.le_of_ble_eq_true rfl)
    · have hF := fw hF h2
      refine r_iconst (v := 1) dX12_isRow_23 (by decide) ?_
      refine r_goto (tgt := 28) dX12_isRow_24 (by decide) ?_
      obtain rfl := hF
      exact r_ireturn rfl rfl dX12_isRow_28 (Nat.le_of_ble_eq_true rfl) (Nat.le_of_ble_eq_true rfl)
theorem nz_X12_isRow (I : IM) (p1 : Int32) (p2 : Int32) : narrow .boolean (.int (F_X12_isRow I p1 p2)) = .int (F_X12_isRow I p1 p2) := by
  unfold F_X12_isRow
  repeat' split
  all_goals first | rfl
def F_X12_row (I : IM) (p1 : Int32) (p2 : Int32) : Option (Int32) := (if (F_X12_isRow I p1 p2) = 0 then (some (-2147483648)) else (if inb ((3 * p1) + p2) 60 = true then (some (I 113 ((3 * p1) + p2).toNatClampNeg)) else none))
set_option maxHeartbeats 4000000 in
theorem ok_X12_row {E : GE} {T : TM} {I : IM} {J : JM} {P : PM} {p1 : Int32} {p2 : Int32} {x : Int32} (hL : LOK T P) (hF : F_X12_row I p1 p2 = some x) : Ctr E mX12_row 2 0 0 [.ref 101, .int p1, .int p2] T I J P (some (.int x)) T I J P := by
  unfold F_X12_row at hF
  refine ctr_intro rfl (by decide) (Nat.le_of_ble_eq_true rfl) ?_
  refine r_sub (ls' := [(2, .int p2), (1, .int p1), (0, .ref 101)]) [2, 1, 0] rfl ?_
  refine r_aload_n dX12_row_0 rfl rfl ?_
  refine r_iload_n dX12_row_1 rfl rfl ?_
  refine r_iload_n dX12_row_2 rfl rfl ?_
  refine c_virt_i (As := [.int p1, .int p2]) mi_X12_isRow kw_1361 ks_56 kw_1359 rfl (by decide) (ln_101 hL) (ok_X12_isRow hL  (p1 := p1) (p2 := p2)) rfl rfl (Nat.le_of_ble_eq_true rfl) ⟨Nat.le_of_ble_eq_true rfl, Nat.le_of_ble_eq_true rfl⟩ ⟨Nat.le_of_ble_eq_true rfl, Nat.le_of_ble_eq_true rfl⟩ dX12_row_3 ?_
  refine r_if_eq (tgt := 22) dX12_row_6 (by decide) (fun h1 => ?_) (fun h1 => ?_)
  · have hF := tw hF h1
    refine r_ldcw dX12_row_22 kw_1259 ?_
    obtain rfl := Option.some.inj hF
    exact r_ireturn rfl rfl dX12_row_25 (Nat.le_of_ble_eq_true rfl) (Nat.le_of_ble_eq_true rfl)
  · have hF := fw hF h1
    refine r_aload_n dX12_row_9 rfl rfl ?_
    refine r_getP lk_X12_47 (ln_101 hL) (pp_101_34 hL) dX12_row_10 ?_
    refine r_iconst (v := 3) dX12_row_13 (by decide) ?_
    refine r_iload_n dX12_row_14 rfl rfl ?_
    refine r_imul dX12_row_15 ?_
    refine r_iload_n dX12_row_16 rfl rfl ?_
    refine r_iadd dX12_row_17 ?_
    obtain ⟨g2, hF⟩ := gd hF
    refine r_iald (ln_113 hL) (by rw [(nl_113 hL)]; exact g2) dX12_row_18 ?_
    refine r_goto (tgt := 25) dX12_row_19 (by decide) ?_
    obtain rfl := Option.some.inj hF
    exact r_ireturn rfl rfl dX12_row_25 (Nat.le_of_ble_eq_true rfl) (Nat.le_of_ble_eq_true rfl)
def F_X12_alterRow (I : IM) (p1 : Int32) (p2 : Int32) (p3 : Int32) : Option (Int32 × IM) := (if (F_X12_isRow I p1 p2) = 0 then (some ((-2147483648), I)) else (if inb ((3 * p1) + p2) 60 = true then (letb (I 113 ((3 * p1) + p2).toNatClampNeg) (fun y3 : Int32 => (if inb ((3 * p1) + p2) 60 = true then (letb (up2 I 113 ((3 * p1) + p2).toNatClampNeg p3) (fun I5 : IM => (some (y3, I5)))) else none))) else none))
set_option maxHeartbeats 4000000 in
theorem ok_X12_alterRow {E : GE} {T : TM} {I : IM} {J : JM} {P : PM} {p1 : Int32} {p2 : Int32} {p3 : Int32} {x : Int32 × IM} (hL : LOK T P) (hF : F_X12_alterRow I p1 p2 p3 = some x) : Ctr E mX12_alterRow 2 0 0 [.ref 101, .int p1, .int p2, .int p3] T I J P (some (.int x.1)) T x.2 J P := by
  unfold F_X12_alterRow at hF
  refine ctr_intro rfl (by decide) (Nat.le_of_ble_eq_true rfl) ?_
  refine r_sub (ls' := [(3, .int p3), (2, .int p2), (1, .int p1), (0, .ref 101)]) [3, 2, 1, 0] rfl ?_
  refine r_aload_n dX12_alterRow_0 rfl rfl ?_
  refine r_iload_n dX12_alterRow_1 rfl rfl ?_
  refine r_iload_n dX12_alterRow_2 rfl rfl ?_
  refine c_virt_i (As := [.int p1, .int p2]) mi_X12_isRow kw_1361 ks_56 kw_1359 rfl (by decide) (ln_101 hL) (ok_X12_isRow hL  (p1 := p1) (p2 := p2)) rfl rfl (Nat.le_of_ble_eq_true rfl) ⟨Nat.le_of_ble_eq_true rfl, Nat.le_of_ble_eq_true rfl⟩ ⟨Nat.le_of_ble_eq_true rfl, Nat.le_of_ble_eq_true rfl⟩ dX12_alterRow_3 ?_
  refine r_if_ne (tgt := 13) dX12_alterRow_6 (by decide) (fun h1 => ?_) (fun h1 => ?_)
  · have hF := fw hF h1
    refine r_aload_n dX12_alterRow_13 rfl rfl ?_
    refine r_getP lk_X12_47 (ln_101 hL) (pp_101_34 hL) dX12_alterRow_14 ?_
    refine r_iconst (v := 3) dX12_alterRow_17 (by decide) ?_
    refine r_iload_n dX12_alterRow_18 rfl rfl ?_
    refine r_imul dX12_alterRow_19 ?_
    refine r_iload_n dX12_alterRow_20 rfl rfl ?_
    refine r_iadd dX12_alterRow_21 ?_
    obtain ⟨g2, hF⟩ := gd hF
    refine r_iald (ln_113 hL) (by rw [(nl_113 hL)]; exact g2) dX12_alterRow_22 ?_
    refine r_letV hF (fun y3 hF => ?_)
    refine r_istore (ls' := [(4, .int y3), (3, .int p3), (2, .int p2), (1, .int p1), (0, .ref 101)]) dX12_alterRow_23 (by decide) rfl ?_
    refine r_aload_n dX12_alterRow_25 rfl rfl ?_
    refine r_getP lk_X12_47 (ln_101 hL) (pp_101_34 hL) dX12_alterRow_26 ?_
    refine r_iconst (v := 3) dX12_alterRow_29 (by decide) ?_
    refine r_iload_n dX12_alterRow_30 rfl rfl ?_
    refine r_imul dX12_alterRow_31 ?_
    refine r_iload_n dX12_alterRow_32 rfl rfl ?_
    refine r_iadd dX12_alterRow_33 ?_
    refine r_iload_n dX12_alterRow_34 rfl rfl ?_
    obtain ⟨g4, hF⟩ := gd hF
    refine r_iast (ln_113 hL) (by rw [(nl_113 hL)]; exact g4) dX12_alterRow_35 ?_
    refine r_letI hF (fun I5 hF => ?_)
    refine r_iload dX12_alterRow_36 rfl ?_
    obtain rfl := Option.some.inj hF
    exact r_ireturn rfl rfl dX12_alterRow_38 (Nat.le_of_ble_eq_true rfl) (Nat.le_of_ble_eq_true rfl)
  · have hF := tw hF h1
    refine r_ldcw dX12_alterRow_9 kw_1259 ?_
    obtain rfl := Option.some.inj hF
    exact r_ireturn rfl rfl dX12_alterRow_12 (Nat.le_of_ble_eq_true rfl) (Nat.le_of_ble_eq_true rfl)
def G_X12_judge_46 (N : Nat) (I : IM) (K22 : Int32 → Option (Int32 × IM)) (u1 : Int32) : Nat → Int32 → Int32 → Option (Int32 × IM)
  | 0, _, _ => none
  | n + 1, u2, u3 => (if 3 ≤ u3 then (if u2 = 0 then (some ((u1 + 1), I)) else (K22 (u1 + 1))) else (if u2 = 0 then (if u2 = 0 then (some ((u1 + 1), I)) else (K22 (u1 + 1))) else (if inb ((3 * u1) + u3) 60 = true then (if inb ((3 * u1) + u3) 60 = true then (letb (if (I 113 ((3 * u1) + u3).toNatClampNeg) = (I 114 ((3 * u1) + u3).toNatClampNeg) then 1 else 0) (fun y15 : Int32 => (G_X12_judge_46 N I K22 u1 n y15 (u3 + 1)))) else none) else none)))
def G_X12_judge_22 (N : Nat) (I : IM) : Nat → Int32 → Option (Int32 × IM)
  | 0, _ => none
  | n + 1, u1 => (if (I 101 36) ≤ u1 then (some (0, I)) else (letb (if (I 101 37) ≤ u1 then 0 else 1) (fun y5 : Int32 => (G_X12_judge_46 N I (fun k0 => G_X12_judge_22 N I n k0) u1 N y5 0))))
set_option maxHeartbeats 4000000 in
theorem okG_X12_judge_46 {E : GE} {T : TM} {I : IM} {J : JM} {P : PM} {N : Nat} {K22 : Int32 → Option (Int32 × IM)} {u1 : Int32} {x : Int32 × IM} (hL : LOK T P) (hK22 : ∀ (u1 : Int32), K22 u1 = some x → WW E mX12_judge (RM 6 0 0) (ZM E 0 0 (some (.int x.1)) T x.2 J P) 0 0 T I J P 22 [(0, .ref 101), (1, .int u1)] []) : ∀ (n : Nat) (u2 : Int32) (u3 : Int32), G_X12_judge_46 N I K22 u1 n u2 u3 = some x → WW E mX12_judge (RM 6 0 0) (ZM E 0 0 (some (.int x.1)) T x.2 J P) 0 0 T I J P 46 [(0, .ref 101), (1, .int u1), (2, .int u2), (3, .int u3)] [] := by
  intro n
  induction n with
  | zero =>
    intro u2 u3 hF
    cases hF
  | succ n ih =>
    intro u2 u3 hF
    rw [G_X12_judge_46] at hF
    refine r_iload_n dX12_judge_46 rfl rfl ?_
    refine r_iconst (v := 3) dX12_judge_47 (by decide) ?_
    refine r_icmp_ge (tgt := 90) dX12_judge_48 (by decide) (fun h7 => ?_) (fun h7 => ?_)
    · have hF := tw hF h7
      refine r_iload_n dX12_judge_90 rfl rfl ?_
      refine r_if_ne (tgt := 98) dX12_judge_91 (by decide) (fun h8 => ?_) (fun h8 => ?_)
      · have hF := fw hF h8
        refine r_iinc (v := (u1 + 1)) (ls' := [(1, .int (u1 + 1)), (0, .ref 101), (2, .int u2), (3, .int u3)]) dX12_judge_98 rfl rfl (by decide) rfl ?_
        refine r_goto (tgt := 22) dX12_judge_101 (by decide) ?_
        refine r_sub (ls' := [(0, .ref 101), (1, .int (u1 + 1))]) [1, 0] rfl ?_
        exact hK22 (u1 + 1) hF
      · have hF := tw hF h8
        refine r_iload_n dX12_judge_94 rfl rfl ?_
        refine r_iconst (v := 1) dX12_judge_95 (by decide) ?_
        refine r_iadd dX12_judge_96 ?_
        obtain rfl := Option.some.inj hF
        exact r_ireturn rfl rfl dX12_judge_97 (Nat.le_of_ble_eq_true rfl) (Nat.le_of_ble_eq_true rfl)
    · have hF := fw hF h7
      refine r_iload_n dX12_judge_51 rfl rfl ?_
      refine r_if_eq (tgt := 90) dX12_judge_52 (by decide) (fun h10 => ?_) (fun h10 => ?_)
      · have hF := tw hF h10
        refine r_iload_n dX12_judge_90 rfl rfl ?_
        refine r_if_ne (tgt := 98) dX12_judge_91 (by decide) (fun h11 => ?_) (fun h11 => ?_)
        · have hF := fw hF h11
          refine r_iinc (v := (u1 + 1)) (ls' := [(1, .int (u1 + 1)), (0, .ref 101), (2, .int u2), (3, .int u3)]) dX12_judge_98 rfl rfl (by decide) rfl ?_
          refine r_goto (tgt := 22) dX12_judge_101 (by decide) ?_
          refine r_sub (ls' := [(0, .ref 101), (1, .int (u1 + 1))]) [1, 0] rfl ?_
          exact hK22 (u1 + 1) hF
        · have hF := tw hF h11
          refine r_iload_n dX12_judge_94 rfl rfl ?_
          refine r_iconst (v := 1) dX12_judge_95 (by decide) ?_
          refine r_iadd dX12_judge_96 ?_
          obtain rfl := Option.some.inj hF
          exact r_ireturn rfl rfl dX12_judge_97 (Nat.le_of_ble_eq_true rfl) (Nat.le_of_ble_eq_true rfl)
      · have hF := fw hF h10
        refine r_aload_n dX12_judge_55 rfl rfl ?_
        refine r_getP lk_X12_47 (ln_101 hL) (pp_101_34 hL) dX12_judge_56 ?_
        refine r_iconst (v := 3) dX12_judge_59 (by decide) ?_
        refine r_iload_n dX12_judge_60 rfl rfl ?_
        refine r_imul dX12_judge_61 ?_
        refine r_iload_n dX12_judge_62 rfl rfl ?_
        refine r_iadd dX12_judge_63 ?_
        obtain ⟨g12, hF⟩ := gd hF
        refine r_iald (ln_113 hL) (by rw [(nl_113 hL)]; exact g12) dX12_judge_64 ?_
        refine r_aload_n dX12_judge_65 rfl rfl ?_
        refine r_getP lk_X12_50 (ln_101 hL) (pp_101_35 hL) dX12_judge_66 ?_
        refine r_iconst (v := 3) dX12_judge_69 (by decide) ?_
        refine r_iload_n dX12_judge_70 rfl rfl ?_
        refine r_imul dX12_judge_71 ?_
        refine r_iload_n dX12_judge_72 rfl rfl ?_
        refine r_iadd dX12_judge_73 ?_
        obtain ⟨g13, hF⟩ := gd hF
        refine r_iald (ln_114 hL) (by rw [(nl_114 hL)]; exact g13) dX12_judge_74 ?_
        refine r_joinB (G1 := fun y15 : Int32 => WW E mX12_judge (RM 6 0 0) (ZM E 0 0 (some (.int x.1)) T x.2 J P) 0 0 T I J P 83 [(0, .ref 101), (1, .int u1), (2, .int u2), (3, .int u3)] [.int y15]) hF (fun y15 ny15 hF => ?_) (fun y15 hv hJ => ?_)
        · refine r_istore_n (ls' := [(2, .int y15), (0, .ref 101), (1, .int u1), (3, .int u3)]) dX12_judge_83 rfl (by decide) rfl ?_
          refine r_iinc (v := (u3 + 1)) (ls' := [(3, .int (u3 + 1)), (2, .int y15), (0, .ref 101), (1, .int u1)]) dX12_judge_84 rfl rfl (by decide) rfl ?_
          refine r_goto (tgt := 46) dX12_judge_87 (by decide) ?_
          refine r_sub (ls' := [(0, .ref 101), (1, .int u1), (2, .int y15), (3, .int (u3 + 1))]) [2, 3, 1, 0] rfl ?_
          exact ih y15 (u3 + 1) hF
        · refine r_icmp_ne (tgt := 82) dX12_judge_75 (by decide) (fun h14 => ?_) (fun h14 => ?_)
          · have hv := fw hv h14
            refine r_iconst (v := 0) dX12_judge_82 (by decide) ?_
            obtain rfl := hv
            exact hJ (by first | exact nbz0 | exact nbz1)
          · have hv := tw hv h14
            refine r_iconst (v := 1) dX12_judge_78 (by decide) ?_
            refine r_goto (tgt := 83) dX12_judge_79 (by decide) ?_
            obtain rfl := hv
            exact hJ (by first | exact nbz0 | exact nbz1)
set_option maxHeartbeats 4000000 in
theorem okG_X12_judge_22 {E : GE} {T : TM} {I : IM} {J : JM} {P : PM} {N : Nat} {x : Int32 × IM} (hL : LOK T P) : ∀ (n : Nat) (u1 : Int32), G_X12_judge_22 N I n u1 = some x → WW E mX12_judge (RM 6 0 0) (ZM E 0 0 (some (.int x.1)) T x.2 J P) 0 0 T I J P 22 [(0, .ref 101), (1, .int u1)] [] := by
  intro n
  induction n with
  | zero =>
    intro u1 hF
    cases hF
  | succ n ih =>
    intro u1 hF
    rw [G_X12_judge_22] at hF
    refine r_iload_n dX12_judge_22 rfl rfl ?_
    refine r_aload_n dX12_judge_23 rfl rfl ?_
    refine r_getI lk_X12_198 (ln_101 hL) dX12_judge_24 ?_
    refine r_icmp_ge (tgt := 104) dX12_judge_27 (by decide) (fun h3 => ?_) (fun h3 => ?_)
    · have hF := tw hF h3
      refine r_iconst (v := 0) dX12_judge_104 (by decide) ?_
      obtain rfl := Option.some.inj hF
      exact r_ireturn rfl rfl dX12_judge_105 (Nat.le_of_ble_eq_true rfl) (Nat.le_of_ble_eq_true rfl)
    · have hF := fw hF h3
      refine r_iload_n dX12_judge_30 rfl rfl ?_
      refine r_aload_n dX12_judge_31 rfl rfl ?_
      refine r_getI lk_X12_338 (ln_101 hL) dX12_judge_32 ?_
      refine r_joinB (G1 := fun y5 : Int32 => WW E mX12_judge (RM 6 0 0) (ZM E 0 0 (some (.int x.1)) T x.2 J P) 0 0 T I J P 43 [(0, .ref 101), (1, .int u1)] [.int y5]) hF (fun y5 ny5 hF => ?_) (fun y5 hv hJ => ?_)
      · refine r_istore_n (ls' := [(2, .int y5), (0, .ref 101), (1, .int u1)]) dX12_judge_43 rfl (by decide) rfl ?_
        refine r_iconst (v := 0) dX12_judge_44 (by decide) ?_
        refine r_istore_n (ls' := [(3, .int 0), (2, .int y5), (0, .ref 101), (1, .int u1)]) dX12_judge_45 rfl (by decide) rfl ?_
        refine r_sub (ls' := [(0, .ref 101), (1, .int u1), (2, .int y5), (3, .int 0)]) [2, 3, 1, 0] rfl ?_
        exact okG_X12_judge_46 hL  (fun k0 hF => by exact ih k0 hF) N y5 0 hF
      · refine r_icmp_ge (tgt := 42) dX12_judge_35 (by decide) (fun h4 => ?_) (fun h4 => ?_)
        · have hv := tw hv h4
          refine r_iconst (v := 0) dX12_judge_42 (by decide) ?_
          obtain rfl := hv
          exact hJ (by first | exact nbz0 | exact nbz1)
        · have hv := fw hv h4
          refine r_iconst (v := 1) dX12_judge_38 (by decide) ?_
          refine r_goto (tgt := 43) dX12_judge_39 (by decide) ?_
          obtain rfl := hv
          exact hJ (by first | exact nbz0 | exact nbz1)
def F_X12_judge (N : Nat) (I : IM) : Option (Int32 × IM) := (if 0 ≤ (I 106 0) then ((F_X12_findRows N I (I 101 36)).bind (fun x2 => (G_X12_judge_22 N x2 N 0))) else (some ((-4), I)))
set_option maxHeartbeats 4000000 in
theorem ok_X12_judge {E : GE} {T : TM} {I : IM} {J : JM} {P : PM} {N : Nat} {x : Int32 × IM} (hL : LOK T P) (hF : F_X12_judge N I = some x) : Ctr E mX12_judge 6 0 0 [.ref 101] T I J P (some (.int x.1)) T x.2 J P := by
  unfold F_X12_judge at hF
  refine ctr_intro rfl (by decide) (Nat.le_of_ble_eq_true rfl) ?_
  refine r_sub (ls' := [(0, .ref 101)]) [0] rfl ?_
  refine r_aload_n dX12_judge_0 rfl rfl ?_
  refine r_getP lk_X12_26 (ln_101 hL) (pp_101_6 hL) dX12_judge_1 ?_
  refine r_iconst (v := 0) dX12_judge_4 (by decide) ?_
  refine r_iald (ln_106 hL) (by rw [(nl_106 hL)]; decide) dX12_judge_5 ?_
  refine r_if_ge (tgt := 12) dX12_judge_6 (by decide) (fun h1 => ?_) (fun h1 => ?_)
  · have hF := tw hF h1
    refine r_aload_n dX12_judge_12 rfl rfl ?_
    refine r_aload_n dX12_judge_13 rfl rfl ?_
    refine r_getI lk_X12_198 (ln_101 hL) dX12_judge_14 ?_
    obtain ⟨x2, hx2, hF⟩ := bnd hF
    refine c_virt_v (As := [.int (I 101 36)]) mi_X12_findRows kw_1353 ks_55 kw_1351 rfl (by decide) (ln_101 hL) (ok_X12_findRows hL  hx2) rfl rfl (Nat.le_of_ble_eq_true rfl) ⟨Nat.le_of_ble_eq_true rfl, Nat.le_of_ble_eq_true rfl⟩ ⟨Nat.le_of_ble_eq_true rfl, Nat.le_of_ble_eq_true rfl⟩ dX12_judge_17 ?_
    refine r_iconst (v := 0) dX12_judge_20 (by decide) ?_
    refine r_istore_n (ls' := [(1, .int 0), (0, .ref 101)]) dX12_judge_21 rfl (by decide) rfl ?_
    refine r_sub (ls' := [(0, .ref 101), (1, .int 0)]) [1, 0] rfl ?_
    exact okG_X12_judge_22 hL   N 0 hF
  · have hF := fw hF h1
    refine r_bipush (v := (-4)) dX12_judge_9 (by decide) ?_
    obtain rfl := Option.some.inj hF
    exact r_ireturn rfl rfl dX12_judge_11 (Nat.le_of_ble_eq_true rfl) (Nat.le_of_ble_eq_true rfl)
def G_X12_sheet_64 (N : Nat) (I : IM) (u1 : Int32) : Nat → Int32 → JM → Option (Int32 × IM × JM)
  | 0, _, _ => none
  | n + 1, u4, Jv => (if 40 ≤ u4 then (some (1, I, Jv)) else (if inb ((40 * u1) + u4) 160 = true then (letb (up2 Jv 117 ((40 * u1) + u4).toNatClampNeg 0) (fun J14 : JM => (G_X12_sheet_64 N I u1 n (u4 + 1) J14))) else none))
set_option maxHeartbeats 4000000 in
theorem okG_X12_sheet_64 {E : GE} {T : TM} {I : IM} {P : PM} {N : Nat} {u1 : Int32} {x : Int32 × IM × JM} (hL : LOK T P) : ∀ (n : Nat) (u4 : Int32) (Jv : JM), G_X12_sheet_64 N I u1 n u4 Jv = some x → WW E mX12_sheet (RM 2 0 0) (ZM E 0 0 (some (.int x.1)) T x.2.1 x.2.2 P) 0 0 T I Jv P 64 [(0, .ref 101), (1, .int u1), (4, .int u4)] [] := by
  intro n
  induction n with
  | zero =>
    intro u4 Jv hF
    cases hF
  | succ n ih =>
    intro u4 Jv hF
    rw [G_X12_sheet_64] at hF
    refine r_iload dX12_sheet_64 rfl ?_
    refine r_bipush (v := 40) dX12_sheet_66 (by decide) ?_
    refine r_icmp_ge (tgt := 90) dX12_sheet_68 (by decide) (fun h12 => ?_) (fun h12 => ?_)
    · have hF := tw hF h12
      refine r_iconst (v := 1) dX12_sheet_90 (by decide) ?_
      obtain rfl := Option.some.inj hF
      exact r_ireturn rfl rfl dX12_sheet_91 (Nat.le_of_ble_eq_true rfl) (Nat.le_of_ble_eq_true rfl)
    · have hF := fw hF h12
      refine r_aload_n dX12_sheet_71 rfl rfl ?_
      refine r_getP lk_X12_59 (ln_101 hL) (pp_101_40 hL) dX12_sheet_72 ?_
      refine r_bipush (v := 40) dX12_sheet_75 (by decide) ?_
      refine r_iload_n dX12_sheet_77 rfl rfl ?_
      refine r_imul dX12_sheet_78 ?_
      refine r_iload dX12_sheet_79 rfl ?_
      refine r_iadd dX12_sheet_81 ?_
      refine r_lconst (v := 0) dX12_sheet_82 (by decide) ?_
      obtain ⟨g13, hF⟩ := gd hF
      refine r_last (ln_117 hL) (by rw [(nl_117 hL)]; exact g13) dX12_sheet_83 ?_
      refine r_letJ hF (fun J14 hF => ?_)
      refine r_iinc (v := (u4 + 1)) (ls' := [(4, .int (u4 + 1)), (0, .ref 101), (1, .int u1)]) dX12_sheet_84 rfl rfl (by decide) rfl ?_
      refine r_goto (tgt := 64) dX12_sheet_87 (by decide) ?_
      refine r_sub (ls' := [(0, .ref 101), (1, .int u1), (4, .int (u4 + 1))]) [1, 2, 0] rfl ?_
      exact ih (u4 + 1) J14 hF
def F_X12_sheet (N : Nat) (I : IM) (J : JM) (p1 : Int32) (p2 : Int32) (p3 : Int32) : Option (Int32 × IM × JM) := (if (F_X12_isShelf p1) = 0 then (some ((-1), I, J)) else (if (F_X12_in p2 (-1) 3) = 0 then (some ((-1), I, J)) else (if p2 < 0 then (if p2 < 0 then (if inb p1 4 = true then (letb (up2 I 115 p1.toNatClampNeg p2) (fun I6 : IM => (letb (if 0 ≤ p2 then p3 else 0) (fun y8 : Int32 => (if inb p1 4 = true then (letb (up2 I6 116 p1.toNatClampNeg y8) (fun I10 : IM => (G_X12_sheet_64 N I10 p1 N 0 J))) else none))))) else none) else (if 0 ≤ p3 then (if inb p1 4 = true then (letb (up2 I 115 p1.toNatClampNeg p2) (fun I17 : IM => (letb (if 0 ≤ p2 then p3 else 0) (fun y19 : Int32 => (if inb p1 4 = true then (letb (up2 I17 116 p1.toNatClampNeg y19) (fun I21 : IM => (G_X12_sheet_64 N I21 p1 N 0 J))) else none))))) else none) else (some ((-14), I, J)))) else (if p3 ≤ 40 then (if p2 < 0 then (if inb p1 4 = true then (letb (up2 I 115 p1.toNatClampNeg p2) (fun I25 : IM => (letb (if 0 ≤ p2 then p3 else 0) (fun y27 : Int32 => (if inb p1 4 = true then (letb (up2 I25 116 p1.toNatClampNeg y27) (fun I29 : IM => (G_X12_sheet_64 N I29 p1 N 0 J))) else none))))) else none) else (if 0 ≤ p3 then (if inb p1 4 = true then (letb (up2 I 115 p1.toNatClampNeg p2) (fun I32 : IM => (letb (if 0 ≤ p2 then p3 else 0) (fun y34 : Int32 => (if inb p1 4 = true then (letb (up2 I32 116 p1.toNatClampNeg y34) (fun I36 : IM => (G_X12_sheet_64 N I36 p1 N 0 J))) else none))))) else none) else (some ((-14), I, J)))) else (some ((-1), I, J))))))
set_option maxHeartbeats 4000000 in
theorem ok_X12_sheet {E : GE} {T : TM} {I : IM} {J : JM} {P : PM} {p1 : Int32} {p2 : Int32} {p3 : Int32} {N : Nat} {x : Int32 × IM × JM} (hL : LOK T P) (hF : F_X12_sheet N I J p1 p2 p3 = some x) : Ctr E mX12_sheet 2 0 0 [.ref 101, .int p1, .int p2, .int p3] T I J P (some (.int x.1)) T x.2.1 x.2.2 P := by
  unfold F_X12_sheet at hF
  refine ctr_intro rfl (by decide) (Nat.le_of_ble_eq_true rfl) ?_
  refine r_sub (ls' := [(3, .int p3), (2, .int p2), (1, .int p1), (0, .ref 101)]) [3, 2, 1, 0] rfl ?_
  refine r_iload_n dX12_sheet_0 rfl rfl ?_
  refine c_static_i (As := [.int p1]) mi_X12_isShelf kw_1322 kw_1321 (ok_X12_isShelf hL  (p1 := p1)) rfl rfl (Nat.le_of_ble_eq_true rfl) ⟨Nat.le_of_ble_eq_true rfl, Nat.le_of_ble_eq_true rfl⟩ ⟨Nat.le_of_ble_eq_true rfl, Nat.le_of_ble_eq_true rfl⟩ dX12_sheet_1 ?_
  refine r_if_eq (tgt := 26) dX12_sheet_4 (by decide) (fun h1 => ?_) (fun h1 => ?_)
  · have hF := tw hF h1
    refine r_iconst (v := (-1)) dX12_sheet_26 (by decide) ?_
    obtain rfl := Option.some.inj hF
    exact r_ireturn rfl rfl dX12_sheet_27 (Nat.le_of_ble_eq_true rfl) (Nat.le_of_ble_eq_true rfl)
  · have hF := fw hF h1
    refine r_iload_n dX12_sheet_7 rfl rfl ?_
    refine r_iconst (v := (-1)) dX12_sheet_8 (by decide) ?_
    refine r_iconst (v := 3) dX12_sheet_9 (by decide) ?_
    refine c_static_i (As := [.int p2, .int (-1), .int 3]) mi_X12_in kw_1085 kw_1084 (ok_X12_in hL  (p1 := p2) (p2 := (-1)) (p3 := 3)) rfl rfl (Nat.le_of_ble_eq_true rfl) ⟨Nat.le_of_ble_eq_true rfl, Nat.le_of_ble_eq_true rfl⟩ ⟨Nat.le_of_ble_eq_true rfl, Nat.le_of_ble_eq_true rfl⟩ dX12_sheet_10 ?_
    refine r_if_eq (tgt := 26) dX12_sheet_13 (by decide) (fun h2 => ?_) (fun h2 => ?_)
    · have hF := tw hF h2
      refine r_iconst (v := (-1)) dX12_sheet_26 (by decide) ?_
      obtain rfl := Option.some.inj hF
      exact r_ireturn rfl rfl dX12_sheet_27 (Nat.le_of_ble_eq_true rfl) (Nat.le_of_ble_eq_true rfl)
    · have hF := fw hF h2
      refine r_iload_n dX12_sheet_16 rfl rfl ?_
      refine r_if_lt (tgt := 28) dX12_sheet_17 (by decide) (fun h3 => ?_) (fun h3 => ?_)
      · have hF := tw hF h3
        refine r_iload_n dX12_sheet_28 rfl rfl ?_
        refine r_if_lt (tgt := 39) dX12_sheet_29 (by decide) (fun h4 => ?_) (fun h4 => ?_)
        · have hF := tw hF h4
          refine r_aload_n dX12_sheet_39 rfl rfl ?_
          refine r_getP lk_X12_53 (ln_101 hL) (pp_101_38 hL) dX12_sheet_40 ?_
          refine r_iload_n dX12_sheet_43 rfl rfl ?_
          refine r_iload_n dX12_sheet_44 rfl rfl ?_
          obtain ⟨g5, hF⟩ := gd hF
          refine r_iast (ln_115 hL) (by rw [(nl_115 hL)]; exact g5) dX12_sheet_45 ?_
          refine r_letI hF (fun I6 hF => ?_)
          refine r_aload_n dX12_sheet_46 rfl rfl ?_
          refine r_getP lk_X12_56 (ln_101 hL) (pp_101_39 hL) dX12_sheet_47 ?_
          refine r_iload_n dX12_sheet_50 rfl rfl ?_
          refine r_iload_n dX12_sheet_51 rfl rfl ?_
          refine r_join (G1 := fun y8 : Int32 => WW E mX12_sheet (RM 2 0 0) (ZM E 0 0 (some (.int x.1)) T x.2.1 x.2.2 P) 0 0 T I6 J P 60 [(3, .int p3), (2, .int p2), (1, .int p1), (0, .ref 101)] [.int y8, .int p1, .ref 116]) hF (fun y8 hF => ?_) (fun y8 hv hJ => ?_)
          · obtain ⟨g9, hF⟩ := gd hF
            refine r_iast (ln_116 hL) (by rw [(nl_116 hL)]; exact g9) dX12_sheet_60 ?_
            refine r_letI hF (fun I10 hF => ?_)
            refine r_iconst (v := 0) dX12_sheet_61 (by decide) ?_
            refine r_istore (ls' := [(4, .int 0), (3, .int p3), (2, .int p2), (1, .int p1), (0, .ref 101)]) dX12_sheet_62 (by decide) rfl ?_
            refine r_sub (ls' := [(0, .ref 101), (1, .int p1), (4, .int 0)]) [4, 3, 0] rfl ?_
            exact okG_X12_sheet_64 hL   N 0 J hF
          · refine r_if_ge (tgt := 59) dX12_sheet_52 (by decide) (fun h7 => ?_) (fun h7 => ?_)
            · have hv := tw hv h7
              refine r_iload_n dX12_sheet_59 rfl rfl ?_
              obtain rfl := hv
              exact hJ
            · have hv := fw hv h7
              refine r_iconst (v := 0) dX12_sheet_55 (by decide) ?_
              refine r_goto (tgt := 60) dX12_sheet_56 (by decide) ?_
              obtain rfl := hv
              exact hJ
        · have hF := fw hF h4
          refine r_iload_n dX12_sheet_32 rfl rfl ?_
          refine r_if_ge (tgt := 39) dX12_sheet_33 (by decide) (fun h15 => ?_) (fun h15 => ?_)
          · have hF := tw hF h15
            refine r_aload_n dX12_sheet_39 rfl rfl ?_
            refine r_getP lk_X12_53 (ln_101 hL) (pp_101_38 hL) dX12_sheet_40 ?_
            refine r_iload_n dX12_sheet_43 rfl rfl ?_
            refine r_iload_n dX12_sheet_44 rfl rfl ?_
            obtain ⟨g16, hF⟩ := gd hF
            refine r_iast (ln_115 hL) (by rw [(nl_115 hL)]; exact g16) dX12_sheet_45 ?_
            refine r_letI hF (fun I17 hF => ?_)
            refine r_aload_n dX12_sheet_46 rfl rfl ?_
            refine r_getP lk_X12_56 (ln_101 hL) (pp_101_39 hL) dX12_sheet_47 ?_
            refine r_iload_n dX12_sheet_50 rfl rfl ?_
            refine r_iload_n dX12_sheet_51 rfl rfl ?_
            refine r_join (G1 := fun y19 : Int32 => WW E mX12_sheet (RM 2 0 0) (ZM E 0 0 (some (.int x.1)) T x.2.1 x.2.2 P) 0 0 T I17 J P 60 [(3, .int p3), (2, .int p2), (1, .int p1), (0, .ref 101)] [.int y19, .int p1, .ref 116]) hF (fun y19 hF => ?_) (fun y19 hv hJ => ?_)
            · obtain ⟨g20, hF⟩ := gd hF
              refine r_iast (ln_116 hL) (by rw [(nl_116 hL)]; exact g20) dX12_sheet_60 ?_
              refine r_letI hF (fun I21 hF => ?_)
              refine r_iconst (v := 0) dX12_sheet_61 (by decide) ?_
              refine r_istore (ls' := [(4, .int 0), (3, .int p3), (2, .int p2), (1, .int p1), (0, .ref 101)]) dX12_sheet_62 (by decide) rfl ?_
              refine r_sub (ls' := [(0, .ref 101), (1, .int p1), (4, .int 0)]) [4, 3, 0] rfl ?_
              exact okG_X12_sheet_64 hL   N 0 J hF
            · refine r_if_ge (tgt := 59) dX12_sheet_52 (by decide) (fun h18 => ?_) (fun h18 => ?_)
              · have hv := tw hv h18
                refine r_iload_n dX12_sheet_59 rfl rfl ?_
                obtain rfl := hv
                exact hJ
              · have hv := fw hv h18
                refine r_iconst (v := 0) dX12_sheet_55 (by decide) ?_
                refine r_goto (tgt := 60) dX12_sheet_56 (by decide) ?_
                obtain rfl := hv
                exact hJ
          · have hF := fw hF h15
            refine r_bipush (v := (-14)) dX12_sheet_36 (by decide) ?_
            obtain rfl := Option.some.inj hF
            exact r_ireturn rfl rfl dX12_sheet_38 (Nat.le_of_ble_eq_true rfl) (Nat.le_of_ble_eq_true rfl)
      · have hF := fw hF h3
        refine r_iload_n dX12_sheet_20 rfl rfl ?_
        refine r_bipush (v := 40) dX12_sheet_21 (by decide) ?_
        refine r_icmp_le (tgt := 28) dX12_sheet_23 (by decide) (fun h22 => ?_) (fun h22 => ?_)
        · have hF := tw hF h22
          refine r_iload_n dX12_sheet_28 rfl rfl ?_
          refine r_if_lt (tgt := 39) dX12_sheet_29 (by decide) (fun h23 => ?_) (fun h23 => ?_)
          · have hF := tw hF h23
            refine r_aload_n dX12_sheet_39 rfl rfl ?_
            refine r_getP lk_X12_53 (ln_101 hL) (pp_101_38 hL) dX12_sheet_40 ?_
            refine r_iload_n dX12_sheet_43 rfl rfl ?_
            refine r_iload_n dX12_sheet_44 rfl rfl ?_
            obtain ⟨g24, hF⟩ := gd hF
            refine r_iast (ln_115 hL) (by rw [(nl_115 hL)]; exact g24) dX12_sheet_45 ?_
            refine r_letI hF (fun I25 hF => ?_)
            refine r_aload_n dX12_sheet_46 rfl rfl ?_
            refine r_getP lk_X12_56 (ln_101 hL) (pp_101_39 hL) dX12_sheet_47 ?_
            refine r_iload_n dX12_sheet_50 rfl rfl ?_
            refine r_iload_n dX12_sheet_51 rfl rfl ?_
            refine r_join (G1 := fun y27 : Int32 => WW E mX12_sheet (RM 2 0 0) (ZM E 0 0 (some (.int x.1)) T x.2.1 x.2.2 P) 0 0 T I25 J P 60 [(3, .int p3), (2, .int p2), (1, .int p1), (0, .ref 101)] [.int y27, .int p1, .ref 116]) hF (fun y27 hF => ?_) (fun y27 hv hJ => ?_)
            · obtain ⟨g28, hF⟩ := gd hF
              refine r_iast (ln_116 hL) (by rw [(nl_116 hL)]; exact g28) dX12_sheet_60 ?_
              refine r_letI hF (fun I29 hF => ?_)
              refine r_iconst (v := 0) dX12_sheet_61 (by decide) ?_
              refine r_istore (ls' := [(4, .int 0), (3, .int p3), (2, .int p2), (1, .int p1), (0, .ref 101)]) dX12_sheet_62 (by decide) rfl ?_
              refine r_sub (ls' := [(0, .ref 101), (1, .int p1), (4, .int 0)]) [4, 3, 0] rfl ?_
              exact okG_X12_sheet_64 hL   N 0 J hF
            · refine r_if_ge (tgt := 59) dX12_sheet_52 (by decide) (fun h26 => ?_) (fun h26 => ?_)
              · have hv := tw hv h26
                refine r_iload_n dX12_sheet_59 rfl rfl ?_
                obtain rfl := hv
                exact hJ
              · have hv := fw hv h26
                refine r_iconst (v := 0) dX12_sheet_55 (by decide) ?_
                refine r_goto (tgt := 60) dX12_sheet_56 (by decide) ?_
                obtain rfl := hv
                exact hJ
          · have hF := fw hF h23
            refine r_iload_n dX12_sheet_32 rfl rfl ?_
            refine r_if_ge (tgt := 39) dX12_sheet_33 (by decide) (fun h30 => ?_) (fun h30 => ?_)
            · have hF := tw hF h30
              refine r_aload_n dX12_sheet_39 rfl rfl ?_
              refine r_getP lk_X12_53 (ln_101 hL) (pp_101_38 hL) dX12_sheet_40 ?_
              refine r_iload_n dX12_sheet_43 rfl rfl ?_
              refine r_iload_n dX12_sheet_44 rfl rfl ?_
              obtain ⟨g31, hF⟩ := gd hF
              refine r_iast (ln_115 hL) (by rw [(nl_115 hL)]; exact g31) dX12_sheet_45 ?_
              refine r_letI hF (fun I32 hF => ?_)
              refine r_aload_n dX12_sheet_46 rfl rfl ?_
              refine r_getP lk_X12_56 (ln_101 hL) (pp_101_39 hL) dX12_sheet_47 ?_
              refine r_iload_n dX12_sheet_50 rfl rfl ?_
              refine r_iload_n dX12_sheet_51 rfl rfl ?_
              refine r_join (G1 := fun y34 : Int32 => WW E mX12_sheet (RM 2 0 0) (ZM E 0 0 (some (.int x.1)) T x.2.1 x.2.2 P) 0 0 T I32 J P 60 [(3, .int p3), (2, .int p2), (1, .int p1), (0, .ref 101)] [.int y34, .int p1, .ref 116]) hF (fun y34 hF => ?_) (fun y34 hv hJ => ?_)
              · obtain ⟨g35, hF⟩ := gd hF
                refine r_iast (ln_116 hL) (by rw [(nl_116 hL)]; exact g35) dX12_sheet_60 ?_
                refine r_letI hF (fun I36 hF => ?_)
                refine r_iconst (v := 0) dX12_sheet_61 (by decide) ?_
                refine r_istore (ls' := [(4, .int 0), (3, .int p3), (2, .int p2), (1, .int p1), (0, .ref 101)]) dX12_sheet_62 (by decide) rfl ?_
                refine r_sub (ls' := [(0, .ref 101), (1, .int p1), (4, .int 0)]) [4, 3, 0] rfl ?_
                exact okG_X12_sheet_64 hL   N 0 J hF
              · refine r_if_ge (tgt := 59) dX12_sheet_52 (by decide) (fun h33 => ?_) (fun h33 => ?_)
                · have hv := tw hv h33
                  refine r_iload_n dX12_sheet_59 rfl rfl ?_
                  obtain rfl := hv
                  exact hJ
                · have hv := fw hv h33
                  refine r_iconst (v := 0) dX12_sheet_55 (by decide) ?_
                  refine r_goto (tgt := 60) dX12_sheet_56 (by decide) ?_
                  obtain rfl := hv
                  exact hJ
            · have hF := fw hF h30
              refine r_bipush (v := (-14)) dX12_sheet_36 (by decide) ?_
              obtain rfl := Option.some.inj hF
              exact r_ireturn rfl rfl dX12_sheet_38 (Nat.le_of_ble_eq_true rfl) (Nat.le_of_ble_eq_true rfl)
        · have hF := fw hF h22
          refine r_iconst (v := (-1)) dX12_sheet_26 (by decide) ?_
          obtain rfl := Option.some.inj hF
          exact r_ireturn rfl rfl dX12_sheet_27 (Nat.le_of_ble_eq_true rfl) (Nat.le_of_ble_eq_true rfl)
def F_X12_put (I : IM) (J : JM) (p1 : Int32) (p2 : Int32) (p3 : Int32) : Option (Int32 × JM) := (if (F_X12_isShelf p1) = 0 then (some ((-1), J)) else (if inb p1 4 = true then (if 0 ≤ (I 115 p1.toNatClampNeg) then (if inb p1 4 = true then (if (F_X12_in p2 0 ((I 116 p1.toNatClampNeg) - 1)) = 0 then (some ((-12), J)) else (if inb p1 4 = true then (if (I 115 p1.toNatClampNeg) = 0 then (if inb ((40 * p1) + p2) 160 = true then (letb (up2 J 117 ((40 * p1) + p2).toNatClampNeg (Int32.toInt64 ((Int32.toInt8 p3).toInt32))) (fun J17 : JM => (some (1, J17)))) else none) else (if inb p1 4 = true then (if (I 115 p1.toNatClampNeg) = 1 then (if inb ((40 * p1) + p2) 160 = true then (letb (up2 J 117 ((40 * p1) + p2).toNatClampNeg (Int32.toInt64 ((Int32.toInt16 p3).toInt32))) (fun J15 : JM => (some (1, J15)))) else none) else (if inb ((40 * p1) + p2) 160 = true then (letb (up2 J 117 ((40 * p1) + p2).toNatClampNeg (Int32.toInt64 p3)) (fun J13 : JM => (some (1, J13)))) else none)) else none)) else none)) else none) else (some ((-11), J))) else none))
set_option maxHeartbeats 4000000 in
theorem ok_X12_put {E : GE} {T : TM} {I : IM} {J : JM} {P : PM} {p1 : Int32} {p2 : Int32} {p3 : Int32} {x : Int32 × JM} (hL : LOK T P) (hF : F_X12_put I J p1 p2 p3 = some x) : Ctr E mX12_put 2 0 0 [.ref 101, .int p1, .int p2, .int p3] T I J P (some (.int x.1)) T I x.2 P := by
  unfold F_X12_put at hF
  refine ctr_intro rfl (by decide) (Nat.le_of_ble_eq_true rfl) ?_
  refine r_sub (ls' := [(3, .int p3), (2, .int p2), (1, .int p1), (0, .ref 101)]) [3, 2, 1, 0] rfl ?_
  refine r_iload_n dX12_put_0 rfl rfl ?_
  refine c_static_i (As := [.int p1]) mi_X12_isShelf kw_1322 kw_1321 (ok_X12_isShelf hL  (p1 := p1)) rfl rfl (Nat.le_of_ble_eq_true rfl) ⟨Nat.le_of_ble_eq_true rfl, Nat.le_of_ble_eq_true rfl⟩ ⟨Nat.le_of_ble_eq_true rfl, Nat.le_of_ble_eq_true rfl⟩ dX12_put_1 ?_
  refine r_if_ne (tgt := 9) dX12_put_4 (by decide) (fun h1 => ?_) (fun h1 => ?_)
  · have hF := fw hF h1
    refine r_aload_n dX12_put_9 rfl rfl ?_
    refine r_getP lk_X12_53 (ln_101 hL) (pp_101_38 hL) dX12_put_10 ?_
    refine r_iload_n dX12_put_13 rfl rfl ?_
    obtain ⟨g2, hF⟩ := gd hF
    refine r_iald (ln_115 hL) (by rw [(nl_115 hL)]; exact g2) dX12_put_14 ?_
    refine r_if_ge (tgt := 21) dX12_put_15 (by decide) (fun h3 => ?_) (fun h3 => ?_)
    · have hF := tw hF h3
      refine r_iload_n dX12_put_21 rfl rfl ?_
      refine r_iconst (v := 0) dX12_put_22 (by decide) ?_
      refine r_aload_n dX12_put_23 rfl rfl ?_
      refine r_getP lk_X12_56 (ln_101 hL) (pp_101_39 hL) dX12_put_24 ?_
      refine r_iload_n dX12_put_27 rfl rfl ?_
      obtain ⟨g4, hF⟩ := gd hF
      refine r_iald (ln_116 hL) (by rw [(nl_116 hL)]; exact g4) dX12_put_28 ?_
      refine r_iconst (v := 1) dX12_put_29 (by decide) ?_
      refine r_isub dX12_put_30 ?_
      refine c_static_i (As := [.int p2, .int 0, .int ((I 116 p1.toNatClampNeg) - 1)]) mi_X12_in kw_1085 kw_1084 (ok_X12_in hL  (p1 := p2) (p2 := 0) (p3 := ((I 116 p1.toNatClampNeg) - 1))) rfl rfl (Nat.le_of_ble_eq_true rfl) ⟨Nat.le_of_ble_eq_true rfl, Nat.le_of_ble_eq_true rfl⟩ ⟨Nat.le_of_ble_eq_true rfl, Nat.le_of_ble_eq_true rfl⟩ dX12_put_31 ?_
      refine r_if_ne (tgt := 40) dX12_put_34 (by decide) (fun h5 => ?_) (fun h5 => ?_)
      · have hF := fw hF h5
        refine r_aload_n dX12_put_40 rfl rfl ?_
        refine r_getP lk_X12_59 (ln_101 hL) (pp_101_40 hL) dX12_put_41 ?_
        refine r_bipush (v := 40) dX12_put_44 (by decide) ?_
        refine r_iload_n dX12_put_46 rfl rfl ?_
        refine r_imul dX12_put_47 ?_
        refine r_iload_n dX12_put_48 rfl rfl ?_
        refine r_iadd dX12_put_49 ?_
        refine r_aload_n dX12_put_50 rfl rfl ?_
        refine r_getP lk_X12_53 (ln_101 hL) (pp_101_38 hL) dX12_put_51 ?_
        refine r_iload_n dX12_put_54 rfl rfl ?_
        obtain ⟨g6, hF⟩ := gd hF
        refine r_iald (ln_115 hL) (by rw [(nl_115 hL)]; exact g6) dX12_put_55 ?_
        refine r_if_ne (tgt := 65) dX12_put_56 (by decide) (fun h8 => ?_) (fun h8 => ?_)
        · have hF := fw hF h8
          refine r_aload_n dX12_put_65 rfl rfl ?_
          refine r_getP lk_X12_53 (ln_101 hL) (pp_101_38 hL) dX12_put_66 ?_
          refine r_iload_n dX12_put_69 rfl rfl ?_
          obtain ⟨g9, hF⟩ := gd hF
          refine r_iald (ln_115 hL) (by rw [(nl_115 hL)]; exact g9) dX12_put_70 ?_
          refine r_iconst (v := 1) dX12_put_71 (by decide) ?_
          refine r_icmp_ne (tgt := 81) dX12_put_72 (by decide) (fun h11 => ?_) (fun h11 => ?_)
          · have hF := fw hF h11
            refine r_iload_n dX12_put_81 rfl rfl ?_
            refine r_i2l dX12_put_82 ?_
            obtain ⟨g12, hF⟩ := gd hF
            refine r_last (ln_117 hL) (by rw [(nl_117 hL)]; exact g12) dX12_put_83 ?_
            refine r_letJ hF (fun J13 hF => ?_)
            refine r_iconst (v := 1) dX12_put_84 (by decide) ?_
            obtain rfl := Option.some.inj hF
            exact r_ireturn rfl rfl dX12_put_85 (Nat.le_of_ble_eq_true rfl) (Nat.le_of_ble_eq_true rfl)
          · have hF := tw hF h11
            refine r_iload_n dX12_put_75 rfl rfl ?_
            refine r_i2s dX12_put_76 ?_
            refine r_i2l dX12_put_77 ?_
            refine r_goto (tgt := 83) dX12_put_78 (by decide) ?_
            obtain ⟨g14, hF⟩ := gd hF
            refine r_last (ln_117 hL) (by rw [(nl_117 hL)]; exact g14) dX12_put_83 ?_
            refine r_letJ hF (fun J15 hF => ?_)
            refine r_iconst (v := 1) dX12_put_84 (by decide) ?_
            obtain rfl := Option.some.inj hF
            exact r_ireturn rfl rfl dX12_put_85 (Nat.le_of_ble_eq_true rfl) (Nat.le_of_ble_eq_true rfl)
        · have hF := tw hF h8
          refine r_iload_n dX12_put_59 rfl rfl ?_
          refine r_i2b dX12_put_60 ?_
          refine r_i2l dX12_put_61 ?_
          refine r_goto (tgt := 83) dX12_put_62 (by decide) ?_
          obtain ⟨g16, hF⟩ := gd hF
          refine r_last (ln_117 hL) (by rw [(nl_117 hL)]; exact g16) dX12_put_83 ?_
          refine r_letJ hF (fun J17 hF => ?_)
          refine r_iconst (v := 1) dX12_put_84 (by decide) ?_
          obtain rfl := Option.some.inj hF
          exact r_ireturn rfl rfl dX12_put_85 (Nat.le_of_ble_eq_true rfl) (Nat.le_of_ble_eq_true rfl)
      · have hF := tw hF h5
        refine r_bipush (v := (-12)) dX12_put_37 (by decide) ?_
        obtain rfl := Option.some.inj hF
        exact r_ireturn rfl rfl dX12_put_39 (Nat.le_of_ble_eq_true rfl) (Nat.le_of_ble_eq_true rfl)
    · have hF := fw hF h3
      refine r_bipush (v := (-11)) dX12_put_18 (by decide) ?_
      obtain rfl := Option.some.inj hF
      exact r_ireturn rfl rfl dX12_put_20 (Nat.le_of_ble_eq_true rfl) (Nat.le_of_ble_eq_true rfl)
  · have hF := tw hF h1
    refine r_iconst (v := (-1)) dX12_put_7 (by decide) ?_
    obtain rfl := Option.some.inj hF
    exact r_ireturn rfl rfl dX12_put_8 (Nat.le_of_ble_eq_true rfl) (Nat.le_of_ble_eq_true rfl)
def F_X12_item (I : IM) (J : JM) (p1 : Int32) (p2 : Int32) (p3 : Int32) : Option (Int32) := (if (F_X12_isShelf p1) = 0 then (some (-1)) else (if (F_X12_in p2 0 3) = 0 then (some (-1)) else ((F_X12_lacksSort I p1 p2).bind (fun x3 => (if x3 = 0 then (if inb p1 4 = true then (if (F_X12_in p3 0 ((I 116 p1.toNatClampNeg) - 1)) = 0 then (some (-12)) else (if inb ((40 * p1) + p3) 160 = true then (some (Int64.toInt32 (J 117 ((40 * p1) + p3).toNatClampNeg))) else none)) else none) else (some x3))))))
set_option maxHeartbeats 4000000 in
theorem ok_X12_item {E : GE} {T : TM} {I : IM} {J : JM} {P : PM} {p1 : Int32} {p2 : Int32} {p3 : Int32} {x : Int32} (hL : LOK T P) (hF : F_X12_item I J p1 p2 p3 = some x) : Ctr E mX12_item 2 0 0 [.ref 101, .int p1, .int p2, .int p3] T I J P (some (.int x)) T I J P := by
  unfold F_X12_item at hF
  refine ctr_intro rfl (by decide) (Nat.le_of_ble_eq_true rfl) ?_
  refine r_sub (ls' := [(3, .int p3), (2, .int p2), (1, .int p1), (0, .ref 101)]) [3, 2, 1, 0] rfl ?_
  refine r_iload_n dX12_item_0 rfl rfl ?_
  refine c_static_i (As := [.int p1]) mi_X12_isShelf kw_1322 kw_1321 (ok_X12_isShelf hL  (p1 := p1)) rfl rfl (Nat.le_of_ble_eq_true rfl) ⟨Nat.le_of_ble_eq_true rfl, Nat.le_of_ble_eq_true rfl⟩ ⟨Nat.le_of_ble_eq_true rfl, Nat.le_of_ble_eq_true rfl⟩ dX12_item_1 ?_
  refine r_if_eq (tgt := 16) dX12_item_4 (by decide) (fun h1 => ?_) (fun h1 => ?_)
  · have hF := tw hF h1
    refine r_iconst (v := (-1)) dX12_item_16 (by decide) ?_
    obtain rfl := Option.some.inj hF
    exact r_ireturn rfl rfl dX12_item_17 (Nat.le_of_ble_eq_true rfl) (Nat.le_of_ble_eq_true rfl)
  · have hF := fw hF h1
    refine r_iload_n dX12_item_7 rfl rfl ?_
    refine r_iconst (v := 0) dX12_item_8 (by decide) ?_
    refine r_iconst (v := 3) dX12_item_9 (by decide) ?_
    refine c_static_i (As := [.int p2, .int 0, .int 3]) mi_X12_in kw_1085 kw_1084 (ok_X12_in hL  (p1 := p2) (p2 := 0) (p3 := 3)) rfl rfl (Nat.le_of_ble_eq_true rfl) ⟨Nat.le_of_ble_eq_true rfl, Nat.le_of_ble_eq_true rfl⟩ ⟨Nat.le_of_ble_eq_true rfl, Nat.le_of_ble_eq_true rfl⟩ dX12_item_10 ?_
    refine r_if_ne (tgt := 18) dX12_item_13 (by decide) (fun h2 => ?_) (fun h2 => ?_)
    · have hF := fw hF h2
      refine r_aload_n dX12_item_18 rfl rfl ?_
      refine r_iload_n dX12_item_19 rfl rfl ?_
      refine r_iload_n dX12_item_20 rfl rfl ?_
      obtain ⟨x3, hx3, hF⟩ := bnd hF
      refine c_virt_i (As := [.int p1, .int p2]) mi_X12_lacksSort kw_1326 ks_53 kw_1324 rfl (by decide) (ln_101 hL) (ok_X12_lacksSort hL  hx3) rfl rfl (Nat.le_of_ble_eq_true rfl) ⟨Nat.le_of_ble_eq_true rfl, Nat.le_of_ble_eq_true rfl⟩ ⟨Nat.le_of_ble_eq_true rfl, Nat.le_of_ble_eq_true rfl⟩ dX12_item_21 ?_
      refine r_istore (ls' := [(4, .int x3), (3, .int p3), (2, .int p2), (1, .int p1), (0, .ref 101)]) dX12_item_24 (by decide) rfl ?_
      refine r_iload dX12_item_26 rfl ?_
      refine r_if_eq (tgt := 34) dX12_item_28 (by decide) (fun h4 => ?_) (fun h4 => ?_)
      · have hF := tw hF h4
        refine r_iload_n dX12_item_34 rfl rfl ?_
        refine r_iconst (v := 0) dX12_item_35 (by decide) ?_
        refine r_aload_n dX12_item_36 rfl rfl ?_
        refine r_getP lk_X12_56 (ln_101 hL) (pp_101_39 hL) dX12_item_37 ?_
        refine r_iload_n dX12_item_40 rfl rfl ?_
        obtain ⟨g5, hF⟩ := gd hF
        refine r_iald (ln_116 hL) (by rw [(nl_116 hL)]; exact g5) dX12_item_41 ?_
        refine r_iconst (v := 1) dX12_item_42 (by decide) ?_
        refine r_isub dX12_item_43 ?_
        refine c_static_i (As := [.int p3, .int 0, .int ((I 116 p1.toNatClampNeg) - 1)]) mi_X12_in kw_1085 kw_1084 (ok_X12_in hL  (p1 := p3) (p2 := 0) (p3 := ((I 116 p1.toNatClampNeg) - 1))) rfl rfl (Nat.le_of_ble_eq_true rfl) ⟨Nat.le_of_ble_eq_true rfl, Nat.le_of_ble_eq_true rfl⟩ ⟨Nat.le_of_ble_eq_true rfl, Nat.le_of_ble_eq_true rfl⟩ dX12_item_44 ?_
        refine r_if_eq (tgt := 65) dX12_item_47 (by decide) (fun h6 => ?_) (fun h6 => ?_)
        · have hF := tw hF h6
          refine r_bipush (v := (-12)) dX12_item_65 (by decide) ?_
          obtain rfl := Option.some.inj hF
          exact r_ireturn rfl rfl dX12_item_67 (Nat.le_of_ble_eq_true rfl) (Nat.le_of_ble_eq_true rfl)
        · have hF := fw hF h6
          refine r_aload_n dX12_item_50 rfl rfl ?_
          refine r_getP lk_X12_59 (ln_101 hL) (pp_101_40 hL) dX12_item_51 ?_
          refine r_bipush (v := 40) dX12_item_54 (by decide) ?_
          refine r_iload_n dX12_item_56 rfl rfl ?_
          refine r_imul dX12_item_57 ?_
          refine r_iload_n dX12_item_58 rfl rfl ?_
          refine r_iadd dX12_item_59 ?_
          obtain ⟨g7, hF⟩ := gd hF
          refine r_lald (ln_117 hL) (by rw [(nl_117 hL)]; exact g7) dX12_item_60 ?_
          refine r_l2i dX12_item_61 ?_
          refine r_goto (tgt := 67) dX12_item_62 (by decide) ?_
          obtain rfl := Option.some.inj hF
          exact r_ireturn rfl rfl dX12_item_67 (Nat.le_of_ble_eq_true rfl) (Nat.le_of_ble_eq_true rfl)
      · have hF := fw hF h4
        refine r_iload dX12_item_31 rfl ?_
        obtain rfl := Option.some.inj hF
        exact r_ireturn rfl rfl dX12_item_33 (Nat.le_of_ble_eq_true rfl) (Nat.le_of_ble_eq_true rfl)
    · have hF := tw hF h2
      refine r_iconst (v := (-1)) dX12_item_16 (by decide) ?_
      obtain rfl := Option.some.inj hF
      exact r_ireturn rfl rfl dX12_item_17 (Nat.le_of_ble_eq_true rfl) (Nat.le_of_ble_eq_true rfl)
def F_X12_isHeld (I : IM) (p1 : Int32) (p2 : Int32) : Int32 := (if p1 = 0 then (F_X12_isCard I p2) else (if p1 = 1 then (F_X12_isShelf p2) else (if p1 = 2 then 1 else 0)))
set_option maxHeartbeats 4000000 in
theorem ok_X12_isHeld {E : GE} {T : TM} {I : IM} {J : JM} {P : PM} {p1 : Int32} {p2 : Int32} (hL : LOK T P) : Ctr E mX12_isHeld 2 0 0 [.ref 101, .int p1, .int p2] T I J P (some (.int (F_X12_isHeld I p1 p2))) T I J P := by
  generalize hF : F_X12_isHeld I p1 p2 = r
  unfold F_X12_isHeld at hF
  refine ctr_intro rfl (by decide) (Nat.le_of_ble_eq_true rfl) ?_
  refine r_sub (ls' := [(2, .int p2), (1, .int p1), (0, .ref 101)]) [2, 1, 0] rfl ?_
  refine r_iload_n dX12_isHeld_0 rfl rfl ?_
  refine r_if_ne (tgt := 12) dX12_isHeld_1 (by decide) (fun h1 => ?_) (fun h1 => ?_)
  · have hF := fw hF h1
    refine r_iload_n dX12_isHeld_12 rfl rfl ?_
    refine r_iconst (v := 1) dX12_isHeld_13 (by decide) ?_
    refine r_icmp_ne (tgt := 24) dX12_isHeld_14 (by decide) (fun h2 => ?_) (fun h2 => ?_)
    · have hF := fw hF h2
      refine r_iload_n dX12_isHeld_24 rfl rfl ?_
      refine r_iconst (v := 2) dX12_isHeld_25 (by decide) ?_
      refine r_icmp_ne (tgt := 33) dX12_isHeld_26 (by decide) (fun h3 => ?_) (fun h3 => ?_)
      · have hF := fw hF h3
        refine r_iconst (v := 0) dX12_isHeld_33 (by decide) ?_
        obtain rfl := hF
        exact r_ireturn rfl rfl dX12_isHeld_34 (Nat.le_of_ble_eq_true rfl) (Nat.le_of_ble_eq_true rfl)
      · have hF := tw hF h3
        refine r_iconst (v := 1) dX12_isHeld_29 (by decide) ?_
        refine r_goto (tgt := 34) dX12_isHeld_30 (by decide) ?_
        obtain rfl := hF
        exact r_ireturn rfl rfl dX12_isHeld_34 (Nat.le_of_ble_eq_true rfl) (Nat.le_of_ble_eq_true rfl)
    · have hF := tw hF h2
      refine r_iload_n dX12_isHeld_17 rfl rfl ?_
      refine c_static_i (As := [.int p2]) mi_X12_isShelf kw_1322 kw_1321 (ok_X12_isShelf hL  (p1 := p2)) rfl rfl (Nat.le_of_ble_eq_true rfl) ⟨Nat.le_of_ble_eq_true rfl, Nat.le_of_ble_eq_true rfl⟩ ⟨Nat.le_of_ble_eq_true rfl, Nat.le_of_ble_eq_true rfl⟩ dX12_isHeld_18 ?_
      refine r_goto (tgt := 34) dX12_isHeld_21 (by decide) ?_
      obtain rfl := hF
      exact r_ireturn rfl (nz_X12_isShelf p2) dX12_isHeld_34 (Nat.le_of_ble_eq_true rfl) (Nat.le_of_ble_eq_true rfl)
  · have hF := tw hF h1
    refine r_aload_n dX12_isHeld_4 rfl rfl ?_
    refine r_iload_n dX12_isHeld_5 rfl rfl ?_
    refine c_virt_i (As := [.int p2]) mi_X12_isCard kw_1173 ks_35 kw_1171 rfl (by decide) (ln_101 hL) (ok_X12_isCard hL  (p1 := p2)) rfl rfl (Nat.le_of_ble_eq_true rfl) ⟨Nat.le_of_ble_eq_true rfl, Nat.le_of_ble_eq_true rfl⟩ ⟨Nat.le_of_ble_eq_true rfl, Nat.le_of_ble_eq_true rfl⟩ dX12_isHeld_6 ?_
    refine r_goto (tgt := 34) dX12_isHeld_9 (by decide) ?_
    obtain rfl := hF
    exact r_ireturn rfl (nz_X12_isCard I p2) dX12_isHeld_34 (Nat.le_of_ble_eq_true rfl) (Nat.le_of_ble_eq_true rfl)
theorem nz_X12_isHeld (I : IM) (p1 : Int32) (p2 : Int32) : narrow .boolean (.int (F_X12_isHeld I p1 p2)) = .int (F_X12_isHeld I p1 p2) := by
  unfold F_X12_isHeld
  repeat' split
  all_goals first | (with_reducible exact nz_X12_isCard ..) | (with_reducible exact nz_X12_isShelf ..) | rfl
def F_X12_shelf (I : IM) (p1 : Int32) (p2 : Int32) (p3 : Int32) : Option (Int32 × IM) := (if (F_X12_isShelf p1) = 0 then (some ((-1), I)) else (if (F_X12_isHeld I p2 p3) = 0 then (some ((-1), I)) else (if p2 = 2 then (if inb p1 4 = true then (letb (up2 I 118 p1.toNatClampNeg (-1)) (fun I7 : IM => (if p2 = 1 then (if inb p3 4 = true then (if inb p1 4 = true then (letb (up2 I7 119 p1.toNatClampNeg (I7 115 p3.toNatClampNeg)) (fun I21 : IM => (if p2 = 1 then (if inb p3 4 = true then (if inb p1 4 = true then (letb (up2 I21 120 p1.toNatClampNeg (I21 116 p3.toNatClampNeg)) (fun I28 : IM => (some (1, I28)))) else none) else none) else (if inb p1 4 = true then (letb (up2 I21 120 p1.toNatClampNeg 0) (fun I25 : IM => (some (1, I25)))) else none)))) else none) else none) else (if inb p1 4 = true then (letb (up2 I7 119 p1.toNatClampNeg p3) (fun I11 : IM => (if p2 = 1 then (if inb p3 4 = true then (if inb p1 4 = true then (letb (up2 I11 120 p1.toNatClampNeg (I11 116 p3.toNatClampNeg)) (fun I18 : IM => (some (1, I18)))) else none) else none) else (if inb p1 4 = true then (letb (up2 I11 120 p1.toNatClampNeg 0) (fun I15 : IM => (some (1, I15)))) else none)))) else none)))) else none) else (if p2 = 1 then (if inb p3 4 = true then (letb (if 0 ≤ (I 115 p3.toNatClampNeg) then p2 else (-1)) (fun y56 : Int32 => (if inb p1 4 = true then (letb (up2 I 118 p1.toNatClampNeg y56) (fun I58 : IM => (if p2 = 1 then (if inb p3 4 = true then (if inb p1 4 = true then (letb (up2 I58 119 p1.toNatClampNeg (I58 115 p3.toNatClampNeg)) (fun I72 : IM => (if p2 = 1 then (if inb p3 4 = true then (if inb p1 4 = true then (letb (up2 I72 120 p1.toNatClampNeg (I72 116 p3.toNatClampNeg)) (fun I79 : IM => (some (1, I79)))) else none) else none) else (if inb p1 4 = true then (letb (up2 I72 120 p1.toNatClampNeg 0) (fun I76 : IM => (some (1, I76)))) else none)))) else none) else none) else (if inb p1 4 = true then (letb (up2 I58 119 p1.toNatClampNeg p3) (fun I62 : IM => (if p2 = 1 then (if inb p3 4 = true then (if inb p1 4 = true then (letb (up2 I62 120 p1.toNatClampNeg (I62 116 p3.toNatClampNeg)) (fun I69 : IM => (some (1, I69)))) else none) else none) else (if inb p1 4 = true then (letb (up2 I62 120 p1.toNatClampNeg 0) (fun I66 : IM => (some (1, I66)))) else none)))) else none)))) else none))) else none) else (if inb p1 4 = true then (letb (up2 I 118 p1.toNatClampNeg p2) (fun I32 : IM => (if p2 = 1 then (if inb p3 4 = true then (if inb p1 4 = true then (letb (up2 I32 119 p1.toNatClampNeg (I32 115 p3.toNatClampNeg)) (fun I46 : IM => (if p2 = 1 then (if inb p3 4 = true then (if inb p1 4 = true then (letb (up2 I46 120 p1.toNatClampNeg (I46 116 p3.toNatClampNeg)) (fun I53 : IM => (some (1, I53)))) else none) else none) else (if inb p1 4 = true then (letb (up2 I46 120 p1.toNatClampNeg 0) (fun I50 : IM => (some (1, I50)))) else none)))) else none) else none) else (if inb p1 4 = true then (letb (up2 I32 119 p1.toNatClampNeg p3) (fun I36 : IM => (if p2 = 1 then (if inb p3 4 = true then (if inb p1 4 = true then (letb (up2 I36 120 p1.toNatClampNeg (I36 116 p3.toNatClampNeg)) (fun I43 : IM => (some (1, I43)))) else none) else none) else (if inb p1 4 = true then (letb (up2 I36 120 p1.toNatClampNeg 0) (fun I40 : IM => (some (1, I40)))) else none)))) else none)))) else none)))))
set_option maxHeartbeats 4000000 in
theorem ok_X12_shelf {E : GE} {T : TM} {I : IM} {J : JM} {P : PM} {p1 : Int32} {p2 : Int32} {p3 : Int32} {x : Int32 × IM} (hL : LOK T P) (hF : F_X12_shelf I p1 p2 p3 = some x) : Ctr E mX12_shelf 3 0 0 [.ref 101, .int p1, .int p2, .int p3] T I J P (some (.int x.1)) T x.2 J P := by
  unfold F_X12_shelf at hF
  refine ctr_intro rfl (by decide) (Nat.le_of_ble_eq_true rfl) ?_
  refine r_sub (ls' := [(3, .int p3), (2, .int p2), (1, .int p1), (0, .ref 101)]) [3, 2, 1, 0] rfl ?_
  refine r_iload_n dX12_shelf_0 rfl rfl ?_
  refine c_static_i (As := [.int p1]) mi_X12_isShelf kw_1322 kw_1321 (ok_X12_isShelf hL  (p1 := p1)) rfl rfl (Nat.le_of_ble_eq_true rfl) ⟨Nat.le_of_ble_eq_true rfl, Nat.le_of_ble_eq_true rfl⟩ ⟨Nat.le_of_ble_eq_true rfl, Nat.le_of_ble_eq_true rfl⟩ dX12_shelf_1 ?_
  refine r_if_eq (tgt := 16) dX12_shelf_4 (by decide) (fun h1 => ?_) (fun h1 => ?_)
  · have hF := tw hF h1
    refine r_iconst (v := (-1)) dX12_shelf_16 (by decide) ?_
    obtain rfl := Option.some.inj hF
    exact r_ireturn rfl rfl dX12_shelf_17 (Nat.le_of_ble_eq_true rfl) (Nat.le_of_ble_eq_true rfl)
  · have hF := fw hF h1
    refine r_aload_n dX12_shelf_7 rfl rfl ?_
    refine r_iload_n dX12_shelf_8 rfl rfl ?_
    refine r_iload_n dX12_shelf_9 rfl rfl ?_
    refine c_virt_i (As := [.int p2, .int p3]) mi_X12_isHeld kw_1389 ks_57 kw_1387 rfl (by decide) (ln_101 hL) (ok_X12_isHeld hL  (p1 := p2) (p2 := p3)) rfl rfl (Nat.le_of_ble_eq_true rfl) ⟨Nat.le_of_ble_eq_true rfl, Nat.le_of_ble_eq_true rfl⟩ ⟨Nat.le_of_ble_eq_true rfl, Nat.le_of_ble_eq_true rfl⟩ dX12_shelf_10 ?_
    refine r_if_ne (tgt := 18) dX12_shelf_13 (by decide) (fun h2 => ?_) (fun h2 => ?_)
    · have hF := fw hF h2
      refine r_aload_n dX12_shelf_18 rfl rfl ?_
      refine r_getP lk_X12_63 (ln_101 hL) (pp_101_41 hL) dX12_shelf_19 ?_
      refine r_iload_n dX12_shelf_22 rfl rfl ?_
      refine r_iload_n dX12_shelf_23 rfl rfl ?_
      refine r_iconst (v := 2) dX12_shelf_24 (by decide) ?_
      refine r_icmp_eq (tgt := 42) dX12_shelf_25 (by decide) (fun h5 => ?_) (fun h5 => ?_)
      · have hF := tw hF h5
        refine r_iconst (v := (-1)) dX12_shelf_42 (by decide) ?_
        refine r_goto (tgt := 47) dX12_shelf_43 (by decide) ?_
        obtain ⟨g6, hF⟩ := gd hF
        refine r_iast (ln_118 hL) (by rw [(nl_118 hL)]; exact g6) dX12_shelf_47 ?_
        refine r_letI hF (fun I7 hF => ?_)
        refine r_aload_n dX12_shelf_48 rfl rfl ?_
        refine r_getP lk_X12_66 (ln_101 hL) (pp_101_42 hL) dX12_shelf_49 ?_
        refine r_iload_n dX12_shelf_52 rfl rfl ?_
        refine r_iload_n dX12_shelf_53 rfl rfl ?_
        refine r_iconst (v := 1) dX12_shelf_54 (by decide) ?_
        refine r_icmp_ne (tgt := 67) dX12_shelf_55 (by decide) (fun h9 => ?_) (fun h9 => ?_)
        · have hF := fw hF h9
          refine r_iload_n dX12_shelf_67 rfl rfl ?_
          obtain ⟨g10, hF⟩ := gd hF
          refine r_iast (ln_119 hL) (by rw [(nl_119 hL)]; exact g10) dX12_shelf_68 ?_
          refine r_letI hF (fun I11 hF => ?_)
          refine r_aload_n dX12_shelf_69 rfl rfl ?_
          refine r_getP lk_X12_69 (ln_101 hL) (pp_101_43 hL) dX12_shelf_70 ?_
          refine r_iload_n dX12_shelf_73 rfl rfl ?_
          refine r_iload_n dX12_shelf_74 rfl rfl ?_
          refine r_iconst (v := 1) dX12_shelf_75 (by decide) ?_
          refine r_icmp_ne (tgt := 88) dX12_shelf_76 (by decide) (fun h13 => ?_) (fun h13 => ?_)
          · have hF := fw hF h13
            refine r_iconst (v := 0) dX12_shelf_88 (by decide) ?_
            obtain ⟨g14, hF⟩ := gd hF
            refine r_iast (ln_120 hL) (by rw [(nl_120 hL)]; exact g14) dX12_shelf_89 ?_
            refine r_letI hF (fun I15 hF => ?_)
            refine r_iconst (v := 1) dX12_shelf_90 (by decide) ?_
            obtain rfl := Option.some.inj hF
            exact r_ireturn rfl rfl dX12_shelf_91 (Nat.le_of_ble_eq_true rfl) (Nat.le_of_ble_eq_true rfl)
          · have hF := tw hF h13
            refine r_aload_n dX12_shelf_79 rfl rfl ?_
            refine r_getP lk_X12_56 (ln_101 hL) (pp_101_39 hL) dX12_shelf_80 ?_
            refine r_iload_n dX12_shelf_83 rfl rfl ?_
            obtain ⟨g16, hF⟩ := gd hF
            refine r_iald (ln_116 hL) (by rw [(nl_116 hL)]; exact g16) dX12_shelf_84 ?_
            refine r_goto (tgt := 89) dX12_shelf_85 (by decide) ?_
            obtain ⟨g17, hF⟩ := gd hF
            refine r_iast (ln_120 hL) (by rw [(nl_120 hL)]; exact g17) dX12_shelf_89 ?_
            refine r_letI hF (fun I18 hF => ?_)
            refine r_iconst (v := 1) dX12_shelf_90 (by decide) ?_
            obtain rfl := Option.some.inj hF
            exact r_ireturn rfl rfl dX12_shelf_91 (Nat.le_of_ble_eq_true rfl) (Nat.le_of_ble_eq_true rfl)
        · have hF := tw hF h9
          refine r_aload_n dX12_shelf_58 rfl rfl ?_
          refine r_getP lk_X12_53 (ln_101 hL) (pp_101_38 hL) dX12_shelf_59 ?_
          refine r_iload_n dX12_shelf_62 rfl rfl ?_
          obtain ⟨g19, hF⟩ := gd hF
          refine r_iald (ln_115 hL) (by rw [(nl_115 hL)]; exact g19) dX12_shelf_63 ?_
          refine r_goto (tgt := 68) dX12_shelf_64 (by decide) ?_
          obtain ⟨g20, hF⟩ := gd hF
          refine r_iast (ln_119 hL) (by rw [(nl_119 hL)]; exact g20) dX12_shelf_68 ?_
          refine r_letI hF (fun I21 hF => ?_)
          refine r_aload_n dX12_shelf_69 rfl rfl ?_
          refine r_getP lk_X12_69 (ln_101 hL) (pp_101_43 hL) dX12_shelf_70 ?_
          refine r_iload_n dX12_shelf_73 rfl rfl ?_
          refine r_iload_n dX12_shelf_74 rfl rfl ?_
          refine r_iconst (v := 1) dX12_shelf_75 (by decide) ?_
          refine r_icmp_ne (tgt := 88) dX12_shelf_76 (by decide) (fun h23 => ?_) (fun h23 => ?_)
          · have hF := fw hF h23
            refine r_iconst (v := 0) dX12_shelf_88 (by decide) ?_
            obtain ⟨g24, hF⟩ := gd hF
            refine r_iast (ln_120 hL) (by rw [(nl_120 hL)]; exact g24) dX12_shelf_89 ?_
            refine r_letI hF (fun I25 hF => ?_)
            refine r_iconst (v := 1) dX12_shelf_90 (by decide) ?_
            obtain rfl := Option.some.inj hF
            exact r_ireturn rfl rfl dX12_shelf_91 (Nat.le_of_ble_eq_true rfl) (Nat.le_of_ble_eq_true rfl)
          · have hF := tw hF h23
            refine r_aload_n dX12_shelf_79 rfl rfl ?_
            refine r_getP lk_X12_56 (ln_101 hL) (pp_101_39 hL) dX12_shelf_80 ?_
            refine r_iload_n dX12_shelf_83 rfl rfl ?_
            obtain ⟨g26, hF⟩ := gd hF
            refine r_iald (ln_116 hL) (by rw [(nl_116 hL)]; exact g26) dX12_shelf_84 ?_
            refine r_goto (tgt := 89) dX12_shelf_85 (by decide) ?_
            obtain ⟨g27, hF⟩ := gd hF
            refine r_iast (ln_120 hL) (by rw [(nl_120 hL)]; exact g27) dX12_shelf_89 ?_
            refine r_letI hF (fun I28 hF => ?_)
            refine r_iconst (v := 1) dX12_shelf_90 (by decide) ?_
            obtain rfl := Option.some.inj hF
            exact r_ireturn rfl rfl dX12_shelf_91 (Nat.le_of_ble_eq_true rfl) (Nat.le_of_ble_eq_true rfl)
      · have hF := fw hF h5
        refine r_iload_n dX12_shelf_28 rfl rfl ?_
        refine r_iconst (v := 1) dX12_shelf_29 (by decide) ?_
        refine r_icmp_ne (tgt := 46) dX12_shelf_30 (by decide) (fun h30 => ?_) (fun h30 => ?_)
        · have hF := fw hF h30
          refine r_iload_n dX12_shelf_46 rfl rfl ?_
          obtain ⟨g31, hF⟩ := gd hF
          refine r_iast (ln_118 hL) (by rw [(nl_118 hL)]; exact g31) dX12_shelf_47 ?_
          refine r_letI hF (fun I32 hF => ?_)
          refine r_aload_n dX12_shelf_48 rfl rfl ?_
          refine r_getP lk_X12_66 (ln_101 hL) (pp_101_42 hL) dX12_shelf_49 ?_
          refine r_iload_n dX12_shelf_52 rfl rfl ?_
          refine r_iload_n dX12_shelf_53 rfl rfl ?_
          refine r_iconst (v := 1) dX12_shelf_54 (by decide) ?_
          refine r_icmp_ne (tgt := 67) dX12_shelf_55 (by decide) (fun h34 => ?_) (fun h34 => ?_)
          · have hF := fw hF h34
            refine r_iload_n dX12_shelf_67 rfl rfl ?_
            obtain ⟨g35, hF⟩ := gd hF
            refine r_iast (ln_119 hL) (by rw [(nl_119 hL)]; exact g35) dX12_shelf_68 ?_
            refine r_letI hF (fun I36 hF => ?_)
            refine r_aload_n dX12_shelf_69 rfl rfl ?_
            refine r_getP lk_X12_69 (ln_101 hL) (pp_101_43 hL) dX12_shelf_70 ?_
            refine r_iload_n dX12_shelf_73 rfl rfl ?_
            refine r_iload_n dX12_shelf_74 rfl rfl ?_
            refine r_iconst (v := 1) dX12_shelf_75 (by decide) ?_
            refine r_icmp_ne (tgt := 88) dX12_shelf_76 (by decide) (fun h38 => ?_) (fun h38 => ?_)
            · have hF := fw hF h38
              refine r_iconst (v := 0) dX12_shelf_88 (by decide) ?_
              obtain ⟨g39, hF⟩ := gd hF
              refine r_iast (ln_120 hL) (by rw [(nl_120 hL)]; exact g39) dX12_shelf_89 ?_
              refine r_letI hF (fun I40 hF => ?_)
              refine r_iconst (v := 1) dX12_shelf_90 (by decide) ?_
              obtain rfl := Option.some.inj hF
              exact r_ireturn rfl rfl dX12_shelf_91 (Nat.le_of_ble_eq_true rfl) (Nat.le_of_ble_eq_true rfl)
            · have hF := tw hF h38
              refine r_aload_n dX12_shelf_79 rfl rfl ?_
              refine r_getP lk_X12_56 (ln_101 hL) (pp_101_39 hL) dX12_shelf_80 ?_
              refine r_iload_n dX12_shelf_83 rfl rfl ?_
              obtain ⟨g41, hF⟩ := gd hF
              refine r_iald (ln_116 hL) (by rw [(nl_116 hL)]; exact g41) dX12_shelf_84 ?_
              refine r_goto (tgt := 89) dX12_shelf_85 (by decide) ?_
              obtain ⟨g42, hF⟩ := gd hF
              refine r_iast (ln_120 hL) (by rw [(nl_120 hL)]; exact g42) dX12_shelf_89 ?_
              refine r_letI hF (fun I43 hF => ?_)
              refine r_iconst (v := 1) dX12_shelf_90 (by decide) ?_
              obtain rfl := Option.some.inj hF
              exact r_ireturn rfl rfl dX12_shelf_91 (Nat.le_of_ble_eq_true rfl) (Nat.le_of_ble_eq_true rfl)
          · have hF := tw hF h34
            refine r_aload_n dX12_shelf_58 rfl rfl ?_
            refine r_getP lk_X12_53 (ln_101 hL) (pp_101_38 hL) dX12_shelf_59 ?_
            refine r_iload_n dX12_shelf_62 rfl rfl ?_
            obtain ⟨g44, hF⟩ := gd hF
            refine r_iald (ln_115 hL) (by rw [(nl_115 hL)]; exact g44) dX12_shelf_63 ?_
            refine r_goto (tgt := 68) dX12_shelf_64 (by decide) ?_
            obtain ⟨g45, hF⟩ := gd hF
            refine r_iast (ln_119 hL) (by rw [(nl_119 hL)]; exact g45) dX12_shelf_68 ?_
            refine r_letI hF (fun I46 hF => ?_)
            refine r_aload_n dX12_shelf_69 rfl rfl ?_
            refine r_getP lk_X12_69 (ln_101 hL) (pp_101_43 hL) dX12_shelf_70 ?_
            refine r_iload_n dX12_shelf_73 rfl rfl ?_
            refine r_iload_n dX12_shelf_74 rfl rfl ?_
            refine r_iconst (v := 1) dX12_shelf_75 (by decide) ?_
            refine r_icmp_ne (tgt := 88) dX12_shelf_76 (by decide) (fun h48 => ?_) (fun h48 => ?_)
            · have hF := fw hF h48
              refine r_iconst (v := 0) dX12_shelf_88 (by decide) ?_
              obtain ⟨g49, hF⟩ := gd hF
              refine r_iast (ln_120 hL) (by rw [(nl_120 hL)]; exact g49) dX12_shelf_89 ?_
              refine r_letI hF (fun I50 hF => ?_)
              refine r_iconst (v := 1) dX12_shelf_90 (by decide) ?_
              obtain rfl := Option.some.inj hF
              exact r_ireturn rfl rfl dX12_shelf_91 (Nat.le_of_ble_eq_true rfl) (Nat.le_of_ble_eq_true rfl)
            · have hF := tw hF h48
              refine r_aload_n dX12_shelf_79 rfl rfl ?_
              refine r_getP lk_X12_56 (ln_101 hL) (pp_101_39 hL) dX12_shelf_80 ?_
              refine r_iload_n dX12_shelf_83 rfl rfl ?_
              obtain ⟨g51, hF⟩ := gd hF
              refine r_iald (ln_116 hL) (by rw [(nl_116 hL)]; exact g51) dX12_shelf_84 ?_
              refine r_goto (tgt := 89) dX12_shelf_85 (by decide) ?_
              obtain ⟨g52, hF⟩ := gd hF
              refine r_iast (ln_120 hL) (by rw [(nl_120 hL)]; exact g52) dX12_shelf_89 ?_
              refine r_letI hF (fun I53 hF => ?_)
              refine r_iconst (v := 1) dX12_shelf_90 (by decide) ?_
              obtain rfl := Option.some.inj hF
              exact r_ireturn rfl rfl dX12_shelf_91 (Nat.le_of_ble_eq_true rfl) (Nat.le_of_ble_eq_true rfl)
        · have hF := tw hF h30
          refine r_aload_n dX12_shelf_33 rfl rfl ?_
          refine r_getP lk_X12_53 (ln_101 hL) (pp_101_38 hL) dX12_shelf_34 ?_
          refine r_iload_n dX12_shelf_37 rfl rfl ?_
          obtain ⟨g54, hF⟩ := gd hF
          refine r_iald (ln_115 hL) (by rw [(nl_115 hL)]; exact g54) dX12_shelf_38 ?_
          refine r_join (G1 := fun y56 : Int32 => WW E mX12_shelf (RM 3 0 0) (ZM E 0 0 (some (.int x.1)) T x.2 J P) 0 0 T I J P 47 [(3, .int p3), (2, .int p2), (1, .int p1), (0, .ref 101)] [.int y56, .int p1, .ref 118]) hF (fun y56 hF => ?_) (fun y56 hv hJ => ?_)
          · obtain ⟨g57, hF⟩ := gd hF
            refine r_iast (ln_118 hL) (by rw [(nl_118 hL)]; exact g57) dX12_shelf_47 ?_
            refine r_letI hF (fun I58 hF => ?_)
            refine r_aload_n dX12_shelf_48 rfl rfl ?_
            refine r_getP lk_X12_66 (ln_101 hL) (pp_101_42 hL) dX12_shelf_49 ?_
            refine r_iload_n dX12_shelf_52 rfl rfl ?_
            refine r_iload_n dX12_shelf_53 rfl rfl ?_
            refine r_iconst (v := 1) dX12_shelf_54 (by decide) ?_
            refine r_icmp_ne (tgt := 67) dX12_shelf_55 (by decide) (fun h60 => ?_) (fun h60 => ?_)
            · have hF := fw hF h60
              refine r_iload_n dX12_shelf_67 rfl rfl ?_
              obtain ⟨g61, hF⟩ := gd hF
              refine r_iast (ln_119 hL) (by rw [(nl_119 hL)]; exact g61) dX12_shelf_68 ?_
              refine r_letI hF (fun I62 hF => ?_)
              refine r_aload_n dX12_shelf_69 rfl rfl ?_
              refine r_getP lk_X12_69 (ln_101 hL) (pp_101_43 hL) dX12_shelf_70 ?_
              refine r_iload_n dX12_shelf_73 rfl rfl ?_
              refine r_iload_n dX12_shelf_74 rfl rfl ?_
              refine r_iconst (v := 1) dX12_shelf_75 (by decide) ?_
              refine r_icmp_ne (tgt := 88) dX12_shelf_76 (by decide) (fun h64 => ?_) (fun h64 => ?_)
              · have hF := fw hF h64
                refine r_iconst (v := 0) dX12_shelf_88 (by decide) ?_
                obtain ⟨g65, hF⟩ := gd hF
                refine r_iast (ln_120 hL) (by rw [(nl_120 hL)]; exact g65) dX12_shelf_89 ?_
                refine r_letI hF (fun I66 hF => ?_)
                refine r_iconst (v := 1) dX12_shelf_90 (by decide) ?_
                obtain rfl := Option.some.inj hF
                exact r_ireturn rfl rfl dX12_shelf_91 (Nat.le_of_ble_eq_true rfl) (Nat.le_of_ble_eq_true rfl)
              · have hF := tw hF h64
                refine r_aload_n dX12_shelf_79 rfl rfl ?_
                refine r_getP lk_X12_56 (ln_101 hL) (pp_101_39 hL) dX12_shelf_80 ?_
                refine r_iload_n dX12_shelf_83 rfl rfl ?_
                obtain ⟨g67, hF⟩ := gd hF
                refine r_iald (ln_116 hL) (by rw [(nl_116 hL)]; exact g67) dX12_shelf_84 ?_
                refine r_goto (tgt := 89) dX12_shelf_85 (by decide) ?_
                obtain ⟨g68, hF⟩ := gd hF
                refine r_iast (ln_120 hL) (by rw [(nl_120 hL)]; exact g68) dX12_shelf_89 ?_
                refine r_letI hF (fun I69 hF => ?_)
                refine r_iconst (v := 1) dX12_shelf_90 (by decide) ?_
                obtain rfl := Option.some.inj hF
                exact r_ireturn rfl rfl dX12_shelf_91 (Nat.le_of_ble_eq_true rfl) (Nat.le_of_ble_eq_true rfl)
            · have hF := tw hF h60
              refine r_aload_n dX12_shelf_58 rfl rfl ?_
              refine r_getP lk_X12_53 (ln_101 hL) (pp_101_38 hL) dX12_shelf_59 ?_
              refine r_iload_n dX12_shelf_62 rfl rfl ?_
              obtain ⟨g70, hF⟩ := gd hF
              refine r_iald (ln_115 hL) (by rw [(nl_115 hL)]; exact g70) dX12_shelf_63 ?_
              refine r_goto (tgt := 68) dX12_shelf_64 (by decide) ?_
              obtain ⟨g71, hF⟩ := gd hF
              refine r_iast (ln_119 hL) (by rw [(nl_119 hL)]; exact g71) dX12_shelf_68 ?_
              refine r_letI hF (fun I72 hF => ?_)
              refine r_aload_n dX12_shelf_69 rfl rfl ?_
              refine r_getP lk_X12_69 (ln_101 hL) (pp_101_43 hL) dX12_shelf_70 ?_
              refine r_iload_n dX12_shelf_73 rfl rfl ?_
              refine r_iload_n dX12_shelf_74 rfl rfl ?_
              refine r_iconst (v := 1) dX12_shelf_75 (by decide) ?_
              refine r_icmp_ne (tgt := 88) dX12_shelf_76 (by decide) (fun h74 => ?_) (fun h74 => ?_)
              · have hF := fw hF h74
                refine r_iconst (v := 0) dX12_shelf_88 (by decide) ?_
                obtain ⟨g75, hF⟩ := gd hF
                refine r_iast (ln_120 hL) (by rw [(nl_120 hL)]; exact g75) dX12_shelf_89 ?_
                refine r_letI hF (fun I76 hF => ?_)
                refine r_iconst (v := 1) dX12_shelf_90 (by decide) ?_
                obtain rfl := Option.some.inj hF
                exact r_ireturn rfl rfl dX12_shelf_91 (Nat.le_of_ble_eq_true rfl) (Nat.le_of_ble_eq_true rfl)
              · have hF := tw hF h74
                refine r_aload_n dX12_shelf_79 rfl rfl ?_
                refine r_getP lk_X12_56 (ln_101 hL) (pp_101_39 hL) dX12_shelf_80 ?_
                refine r_iload_n dX12_shelf_83 rfl rfl ?_
                obtain ⟨g77, hF⟩ := gd hF
                refine r_iald (ln_116 hL) (by rw [(nl_116 hL)]; exact g77) dX12_shelf_84 ?_
                refine r_goto (tgt := 89) dX12_shelf_85 (by decide) ?_
                obtain ⟨g78, hF⟩ := gd hF
                refine r_iast (ln_120 hL) (by rw [(nl_120 hL)]; exact g78) dX12_shelf_89 ?_
                refine r_letI hF (fun I79 hF => ?_)
                refine r_iconst (v := 1) dX12_shelf_90 (by decide) ?_
                obtain rfl := Option.some.inj hF
                exact r_ireturn rfl rfl dX12_shelf_91 (Nat.le_of_ble_eq_true rfl) (Nat.le_of_ble_eq_true rfl)
          · refine r_if_ge (tgt := 46) dX12_shelf_39 (by decide) (fun h55 => ?_) (fun h55 => ?_)
            · have hv := tw hv h55
              refine r_iload_n dX12_shelf_46 rfl rfl ?_
              obtain rfl := hv
              exact hJ
            · have hv := fw hv h55
              refine r_iconst (v := (-1)) dX12_shelf_42 (by decide) ?_
              refine r_goto (tgt := 47) dX12_shelf_43 (by decide) ?_
              obtain rfl := hv
              exact hJ
    · have hF := tw hF h2
      refine r_iconst (v := (-1)) dX12_shelf_16 (by decide) ?_
      obtain rfl := Option.some.inj hF
      exact r_ireturn rfl rfl dX12_shelf_17 (Nat.le_of_ble_eq_true rfl) (Nat.le_of_ble_eq_true rfl)
def F_X12_kindOn (I : IM) (p1 : Int32) : Option (Int32) := (if inb p1 4 = true then (if (I 118 p1.toNatClampNeg) = 0 then (if inb p1 4 = true then (if (F_X12_isCard I (I 119 p1.toNatClampNeg)) = 0 then (some (-1)) else (if inb p1 4 = true then ((F_X12_its I (I 119 p1.toNatClampNeg) 0).bind (fun x6 => (some x6))) else none)) else none) else (if inb p1 4 = true then (if 0 ≤ (I 118 p1.toNatClampNeg) then (some 9) else (some (-1))) else none)) else none)
set_option maxHeartbeats 4000000 in
theorem ok_X12_kindOn {E : GE} {T : TM} {I : IM} {J : JM} {P : PM} {p1 : Int32} {x : Int32} (hL : LOK T P) (hF : F_X12_kindOn I p1 = some x) : Ctr E mX12_kindOn 2 0 0 [.ref 101, .int p1] T I J P (some (.int x)) T I J P := by
  unfold F_X12_kindOn at hF
  refine ctr_intro rfl (by decide) (Nat.le_of_ble_eq_true rfl) ?_
  refine r_sub (ls' := [(1, .int p1), (0, .ref 101)]) [1, 0] rfl ?_
  refine r_aload_n dX12_kindOn_0 rfl rfl ?_
  refine r_getP lk_X12_63 (ln_101 hL) (pp_101_41 hL) dX12_kindOn_1 ?_
  refine r_iload_n dX12_kindOn_4 rfl rfl ?_
  obtain ⟨g1, hF⟩ := gd hF
  refine r_iald (ln_118 hL) (by rw [(nl_118 hL)]; exact g1) dX12_kindOn_5 ?_
  refine r_if_eq (tgt := 25) dX12_kindOn_6 (by decide) (fun h2 => ?_) (fun h2 => ?_)
  · have hF := tw hF h2
    refine r_aload_n dX12_kindOn_25 rfl rfl ?_
    refine r_aload_n dX12_kindOn_26 rfl rfl ?_
    refine r_getP lk_X12_66 (ln_101 hL) (pp_101_42 hL) dX12_kindOn_27 ?_
    refine r_iload_n dX12_kindOn_30 rfl rfl ?_
    obtain ⟨g3, hF⟩ := gd hF
    refine r_iald (ln_119 hL) (by rw [(nl_119 hL)]; exact g3) dX12_kindOn_31 ?_
    refine c_virt_i (As := [.int (I 119 p1.toNatClampNeg)]) mi_X12_isCard kw_1173 ks_35 kw_1171 rfl (by decide) (ln_101 hL) (ok_X12_isCard hL  (p1 := (I 119 p1.toNatClampNeg))) rfl rfl (Nat.le_of_ble_eq_true rfl) ⟨Nat.le_of_ble_eq_true rfl, Nat.le_of_ble_eq_true rfl⟩ ⟨Nat.le_of_ble_eq_true rfl, Nat.le_of_ble_eq_true rfl⟩ dX12_kindOn_32 ?_
    refine r_if_eq (tgt := 52) dX12_kindOn_35 (by decide) (fun h4 => ?_) (fun h4 => ?_)
    · have hF := tw hF h4
      refine r_iconst (v := (-1)) dX12_kindOn_52 (by decide) ?_
      obtain rfl := Option.some.inj hF
      exact r_ireturn rfl rfl dX12_kindOn_53 (Nat.le_of_ble_eq_true rfl) (Nat.le_of_ble_eq_true rfl)
    · have hF := fw hF h4
      refine r_aload_n dX12_kindOn_38 rfl rfl ?_
      refine r_aload_n dX12_kindOn_39 rfl rfl ?_
      refine r_getP lk_X12_66 (ln_101 hL) (pp_101_42 hL) dX12_kindOn_40 ?_
      refine r_iload_n dX12_kindOn_43 rfl rfl ?_
      obtain ⟨g5, hF⟩ := gd hF
      refine r_iald (ln_119 hL) (by rw [(nl_119 hL)]; exact g5) dX12_kindOn_44 ?_
      refine r_iconst (v := 0) dX12_kindOn_45 (by decide) ?_
      obtain ⟨x6, hx6, hF⟩ := bnd hF
      refine c_virt_i (As := [.int (I 119 p1.toNatClampNeg), .int 0]) mi_X12_its kw_1177 ks_36 kw_1175 rfl (by decide) (ln_101 hL) (ok_X12_its hL  hx6) rfl rfl (Nat.le_of_ble_eq_true rfl) ⟨Nat.le_of_ble_eq_true rfl, Nat.le_of_ble_eq_true rfl⟩ ⟨Nat.le_of_ble_eq_true rfl, Nat.le_of_ble_eq_true rfl⟩ dX12_kindOn_46 ?_
      refine r_goto (tgt := 53) dX12_kindOn_49 (by decide) ?_
      obtain rfl := Option.some.inj hF
      exact r_ireturn rfl rfl dX12_kindOn_53 (Nat.le_of_ble_eq_true rfl) (Nat.le_of_ble_eq_true rfl)
  · have hF := fw hF h2
    refine r_aload_n dX12_kindOn_9 rfl rfl ?_
    refine r_getP lk_X12_63 (ln_101 hL) (pp_101_41 hL) dX12_kindOn_10 ?_
    refine r_iload_n dX12_kindOn_13 rfl rfl ?_
    obtain ⟨g7, hF⟩ := gd hF
    refine r_iald (ln_118 hL) (by rw [(nl_118 hL)]; exact g7) dX12_kindOn_14 ?_
    refine r_if_ge (tgt := 22) dX12_kindOn_15 (by decide) (fun h8 => ?_) (fun h8 => ?_)
    · have hF := tw hF h8
      refine r_bipush (v := 9) dX12_kindOn_22 (by decide) ?_
      obtain rfl := Option.some.inj hF
      exact r_ireturn rfl rfl dX12_kindOn_24 (Nat.le_of_ble_eq_true rfl) (Nat.le_of_ble_eq_true rfl)
    · have hF := fw hF h8
      refine r_iconst (v := (-1)) dX12_kindOn_18 (by decide) ?_
      refine r_goto (tgt := 24) dX12_kindOn_19 (by decide) ?_
      obtain rfl := Option.some.inj hF
      exact r_ireturn rfl rfl dX12_kindOn_24 (Nat.le_of_ble_eq_true rfl) (Nat.le_of_ble_eq_true rfl)
def F_X12_isUnder (p1 : Int32) (p2 : Int32) : Int32 := (if p2 = 0 then 1 else (if p2 = p1 then 1 else (if p2 = 1 then (if p1 = 4 then 1 else (if p2 = 3 then (if p1 = 5 then 1 else 0) else 0)) else (if p2 = 3 then (if p1 = 5 then 1 else 0) else 0))))
set_option maxHeartbeats 4000000 in
theorem ok_X12_isUnder {E : GE} {T : TM} {I : IM} {J : JM} {P : PM} {p1 : Int32} {p2 : Int32} (hL : LOK T P) : Ctr E mX12_isUnder 0 0 0 [.int p1, .int p2] T I J P (some (.int (F_X12_isUnder p1 p2))) T I J P := by
  generalize hF : F_X12_isUnder p1 p2 = r
  unfold F_X12_isUnder at hF
  refine ctr_intro rfl (by decide) (Nat.le_of_ble_eq_true rfl) ?_
  refine r_sub (ls' := [(1, .int p2), (0, .int p1)]) [1, 0] rfl ?_
  refine r_iload_n dX12_isUnder_0 rfl rfl ?_
  refine r_if_eq (tgt := 29) dX12_isUnder_1 (by decide) (fun h1 => ?_) (fun h1 => ?_)
  · have hF := tw hF h1
    refine r_iconst (v := 1) dX12_isUnder_29 (by decide) ?_
    refine r_goto (tgt := 34) dX12_isUnder_30 (by decide) ?_
    obtain rfl := hF
    exact r_ireturn rfl rfl dX12_isUnder_34 (Nat.le_of_ble_eq_true rfl) (Nat.le_of_ble_eq_true rfl)
  · have hF := fw hF h1
    refine r_iload_n dX12_isUnder_4 rfl rfl ?_
    refine r_iload_n dX12_isUnder_5 rfl rfl ?_
    refine r_icmp_eq (tgt := 29) dX12_isUnder_6 (by decide) (fun h2 => ?_) (fun h2 => ?_)
    · have hF := tw hF h2
      refine r_iconst (v := 1) dX12_isUnder_29 (by decide) ?_
      refine r_goto (tgt := 34) dX12_isUnder_30 (by decide) ?_
      obtain rfl := hF
      exact r_ireturn rfl rfl dX12_isUnder_34 (Nat.le_of_ble_eq_true rfl) (Nat.le_of_ble_eq_true rfl)
    · have hF := fw hF h2
      refine r_iload_n dX12_isUnder_9 rfl rfl ?_
      refine r_iconst (v := 1) dX12_isUnder_10 (by decide) ?_
      refine r_icmp_ne (tgt := 19) dX12_isUnder_11 (by decide) (fun h3 => ?_) (fun h3 => ?_)
      · have hF := fw hF h3
        refine r_iload_n dX12_isUnder_19 rfl rfl ?_
        refine r_iconst (v := 3) dX12_isUnder_20 (by decide) ?_
        refine r_icmp_ne (tgt := 33) dX12_isUnder_21 (by decide) (fun h4 => ?_) (fun h4 => ?_)
        · have hF := fw hF h4
          refine r_iconst (v := 0) dX12_isUnder_33 (by decide) ?_
          obtain rfl := hF
          exact r_ireturn rfl rfl dX12_isUnder_34 (Nat.le_of_ble_eq_true rfl) (Nat.le_of_ble_eq_true rfl)
        · have hF := tw hF h4
          refine r_iload_n dX12_isUnder_24 rfl rfl ?_
          refine r_iconst (v := 5) dX12_isUnder_25 (by decide) ?_
          refine r_icmp_ne (tgt := 33) dX12_isUnder_26 (by decide) (fun h5 => ?_) (fun h5 => ?_)
          · have hF := fw hF h5
            refine r_iconst (v := 0) dX12_isUnder_33 (by decide) ?_
            obtain rfl := hF
            exact r_ireturn rfl rfl dX12_isUnder_34 (Nat.le_of_ble_eq_true rfl) (Nat.le_of_ble_eq_true rfl)
          · have hF := tw hF h5
            refine r_iconst (v := 1) dX12_isUnder_29 (by decide) ?_
            refine r_goto (tgt := 34) dX12_isUnder_30 (by decide) ?_
            obtain rfl := hF
            exact r_ireturn rfl rfl dX12_isUnder_34 (Nat.le_of_ble_eq_true rfl) (Nat.le_of_ble_eq_true rfl)
      · have hF := tw hF h3
        refine r_iload_n dX12_isUnder_14 rfl rfl ?_
        refine r_iconst (v := 4) dX12_isUnder_15 (by decide) ?_
        refine r_icmp_eq (tgt := 29) dX12_isUnder_16 (by decide) (fun h6 => ?_) (fun h6 => ?_)
        · have hF := tw hF h6
          refine r_iconst (v := 1) dX12_isUnder_29 (by decide) ?_
          refine r_goto (tgt := 34) dX12_isUnder_30 (by decide) ?_
          obtain rfl := hF
          exact r_ireturn rfl rfl dX12_isUnder_34 (Nat.le_of_ble_eq_true rfl) (Nat.le_of_ble_eq_true rfl)
        · have hF := fw hF h6
          refine r_iload_n dX12_isUnder_19 rfl rfl ?_
          refine r_iconst (v := 3) dX12_isUnder_20 (by decide) ?_
          refine r_icmp_ne (tgt := 33) dX12_isUnder_21 (by decide) (fun h7 => ?_) (fun h7 => ?_)
          · have hF := fw hF h7
            refine r_iconst (v := 0) dX12_isUnder_33 (by decide) ?_
            obtain rfl := hF
            exact r_ireturn rfl rfl dX12_isUnder_34 (Nat.le_of_ble_eq_true rfl) (Nat.le_of_ble_eq_true rfl)
          · have hF := tw hF h7
            refine r_iload_n dX12_isUnder_24 rfl rfl ?_
            refine r_iconst (v := 5) dX12_isUnder_25 (by decide) ?_
            refine r_icmp_ne (tgt := 33) dX12_isUnder_26 (by decide) (fun h8 => ?_) (fun h8 => ?_)
            · have hF := fw hF h8
              refine r_iconst (v := 0) dX12_isUnder_33 (by decide) ?_
              obtain rfl := hF
              exact r_ireturn rfl rfl dX12_isUnder_34 (Nat.le_of_ble_eq_true rfl) (Nat.le_of_ble_eq_true rfl)
            · have hF := tw hF h8
              refine r_iconst (v := 1) dX12_isUnder_29 (by decide) ?_
              refine r_goto (tgt := 34) dX12_isUnder_30 (by decide) ?_
              obtain rfl := hF
              exact r_ireturn rfl rfl dX12_isUnder_34 (Nat.le_of_ble_eq_true rfl) (Nat.le_of_ble_eq_true rfl)
theorem nz_X12_isUnder (p1 : Int32) (p2 : Int32) : narrow .boolean (.int (F_X12_isUnder p1 p2)) = .int (F_X12_isUnder p1 p2) := by
  unfold F_X12_isUnder
  repeat' split
  all_goals first | rfl
def F_X12_taken (I : IM) (p1 : Int32) (p2 : Int32) : Option (Int32) := (if (F_X12_isShelf p1) = 0 then (some (-1)) else (if (F_X12_in p2 0 5) = 0 then (if (F_X12_in p2 10 13) = 0 then (some (-1)) else ((F_X12_kindOn I p1).bind (fun x13 => (if 0 ≤ x13 then (if x13 = 9 then (if inb p1 4 = true then (if p2 = (10 + (I 119 p1.toNatClampNeg)) then (if inb p1 4 = true then (some (I 120 p1.toNatClampNeg)) else none) else (some (-13))) else none) else (if 10 ≤ p2 then (some (-13)) else (if (F_X12_isUnder x13 p2) = 0 then (some (-13)) else (if inb p1 4 = true then (some (I 119 p1.toNatClampNeg)) else none)))) else (some (-11)))))) else ((F_X12_kindOn I p1).bind (fun x3 => (if 0 ≤ x3 then (if x3 = 9 then (if inb p1 4 = true then (if p2 = (10 + (I 119 p1.toNatClampNeg)) then (if inb p1 4 = true then (some (I 120 p1.toNatClampNeg)) else none) else (some (-13))) else none) else (if 10 ≤ p2 then (some (-13)) else (if (F_X12_isUnder x3 p2) = 0 then (some (-13)) else (if inb p1 4 = true then (some (I 119 p1.toNatClampNeg)) else none)))) else (some (-11)))))))
set_option maxHeartbeats 4000000 in
theorem ok_X12_taken {E : GE} {T : TM} {I : IM} {J : JM} {P : PM} {p1 : Int32} {p2 : Int32} {x : Int32} (hL : LOK T P) (hF : F_X12_taken I p1 p2 = some x) : Ctr E mX12_taken 3 0 0 [.ref 101, .int p1, .int p2] T I J P (some (.int x)) T I J P := by
  unfold F_X12_taken at hF
  refine ctr_intro rfl (by decide) (Nat.le_of_ble_eq_true rfl) ?_
  refine r_sub (ls' := [(2, .int p2), (1, .int p1), (0, .ref 101)]) [2, 1, 0] rfl ?_
  refine r_iload_n dX12_taken_0 rfl rfl ?_
  refine c_static_i (As := [.int p1]) mi_X12_isShelf kw_1322 kw_1321 (ok_X12_isShelf hL  (p1 := p1)) rfl rfl (Nat.le_of_ble_eq_true rfl) ⟨Nat.le_of_ble_eq_true rfl, Nat.le_of_ble_eq_true rfl⟩ ⟨Nat.le_of_ble_eq_true rfl, Nat.le_of_ble_eq_true rfl⟩ dX12_taken_1 ?_
  refine r_if_eq (tgt := 27) dX12_taken_4 (by decide) (fun h1 => ?_) (fun h1 => ?_)
  · have hF := tw hF h1
    refine r_iconst (v := (-1)) dX12_taken_27 (by decide) ?_
    obtain rfl := Option.some.inj hF
    exact r_ireturn rfl rfl dX12_taken_28 (Nat.le_of_ble_eq_true rfl) (Nat.le_of_ble_eq_true rfl)
  · have hF := fw hF h1
    refine r_iload_n dX12_taken_7 rfl rfl ?_
    refine r_iconst (v := 0) dX12_taken_8 (by decide) ?_
    refine r_iconst (v := 5) dX12_taken_9 (by decide) ?_
    refine c_static_i (As := [.int p2, .int 0, .int 5]) mi_X12_in kw_1085 kw_1084 (ok_X12_in hL  (p1 := p2) (p2 := 0) (p3 := 5)) rfl rfl (Nat.le_of_ble_eq_true rfl) ⟨Nat.le_of_ble_eq_true rfl, Nat.le_of_ble_eq_true rfl⟩ ⟨Nat.le_of_ble_eq_true rfl, Nat.le_of_ble_eq_true rfl⟩ dX12_taken_10 ?_
    refine r_if_ne (tgt := 29) dX12_taken_13 (by decide) (fun h2 => ?_) (fun h2 => ?_)
    · have hF := fw hF h2
      refine r_aload_n dX12_taken_29 rfl rfl ?_
      refine r_iload_n dX12_taken_30 rfl rfl ?_
      obtain ⟨x3, hx3, hF⟩ := bnd hF
      refine c_virt_i (As := [.int p1]) mi_X12_kindOn kw_1397 ks_58 kw_1395 rfl (by decide) (ln_101 hL) (ok_X12_kindOn hL  hx3) rfl rfl (Nat.le_of_ble_eq_true rfl) ⟨Nat.le_of_ble_eq_true rfl, Nat.le_of_ble_eq_true rfl⟩ ⟨Nat.le_of_ble_eq_true rfl, Nat.le_of_ble_eq_true rfl⟩ dX12_taken_31 ?_
      refine r_istore_n (ls' := [(3, .int x3), (2, .int p2), (1, .int p1), (0, .ref 101)]) dX12_taken_34 rfl (by decide) rfl ?_
      refine r_iload_n dX12_taken_35 rfl rfl ?_
      refine r_if_ge (tgt := 42) dX12_taken_36 (by decide) (fun h4 => ?_) (fun h4 => ?_)
      · have hF := tw hF h4
        refine r_iload_n dX12_taken_42 rfl rfl ?_
        refine r_bipush (v := 9) dX12_taken_43 (by decide) ?_
        refine r_icmp_ne (tgt := 73) dX12_taken_45 (by decide) (fun h5 => ?_) (fun h5 => ?_)
        · have hF := fw hF h5
          refine r_iload_n dX12_taken_73 rfl rfl ?_
          refine r_bipush (v := 10) dX12_taken_74 (by decide) ?_
          refine r_icmp_ge (tgt := 96) dX12_taken_76 (by decide) (fun h6 => ?_) (fun h6 => ?_)
          · have hF := tw hF h6
            refine r_bipush (v := (-13)) dX12_taken_96 (by decide) ?_
            obtain rfl := Option.some.inj hF
            exact r_ireturn rfl rfl dX12_taken_98 (Nat.le_of_ble_eq_true rfl) (Nat.le_of_ble_eq_true rfl)
          · have hF := fw hF h6
            refine r_iload_n dX12_taken_79 rfl rfl ?_
            refine r_iload_n dX12_taken_80 rfl rfl ?_
            refine c_static_i (As := [.int x3, .int p2]) mi_X12_isUnder kw_1400 kw_1399 (ok_X12_isUnder hL  (p1 := x3) (p2 := p2)) rfl rfl (Nat.le_of_ble_eq_true rfl) ⟨Nat.le_of_ble_eq_true rfl, Nat.le_of_ble_eq_true rfl⟩ ⟨Nat.le_of_ble_eq_true rfl, Nat.le_of_ble_eq_true rfl⟩ dX12_taken_81 ?_
            refine r_if_eq (tgt := 96) dX12_taken_84 (by decide) (fun h7 => ?_) (fun h7 => ?_)
            · have hF := tw hF h7
              refine r_bipush (v := (-13)) dX12_taken_96 (by decide) ?_
              obtain rfl := Option.some.inj hF
              exact r_ireturn rfl rfl dX12_taken_98 (Nat.le_of_ble_eq_true rfl) (Nat.le_of_ble_eq_true rfl)
            · have hF := fw hF h7
              refine r_aload_n dX12_taken_87 rfl rfl ?_
              refine r_getP lk_X12_66 (ln_101 hL) (pp_101_42 hL) dX12_taken_88 ?_
              refine r_iload_n dX12_taken_91 rfl rfl ?_
              obtain ⟨g8, hF⟩ := gd hF
              refine r_iald (ln_119 hL) (by rw [(nl_119 hL)]; exact g8) dX12_taken_92 ?_
              refine r_goto (tgt := 98) dX12_taken_93 (by decide) ?_
              obtain rfl := Option.some.inj hF
              exact r_ireturn rfl rfl dX12_taken_98 (Nat.le_of_ble_eq_true rfl) (Nat.le_of_ble_eq_true rfl)
        · have hF := tw hF h5
          refine r_iload_n dX12_taken_48 rfl rfl ?_
          refine r_bipush (v := 10) dX12_taken_49 (by decide) ?_
          refine r_aload_n dX12_taken_51 rfl rfl ?_
          refine r_getP lk_X12_66 (ln_101 hL) (pp_101_42 hL) dX12_taken_52 ?_
          refine r_iload_n dX12_taken_55 rfl rfl ?_
          obtain ⟨g9, hF⟩ := gd hF
          refine r_iald (ln_119 hL) (by rw [(nl_119 hL)]; exact g9) dX12_taken_56 ?_
          refine r_iadd dX12_taken_57 ?_
          refine r_icmp_ne (tgt := 70) dX12_taken_58 (by decide) (fun h10 => ?_) (fun h10 => ?_)
          · have hF := fw hF h10
            refine r_bipush (v := (-13)) dX12_taken_70 (by decide) ?_
            obtain rfl := Option.some.inj hF
            exact r_ireturn rfl rfl dX12_taken_72 (Nat.le_of_ble_eq_true rfl) (Nat.le_of_ble_eq_true rfl)
          · have hF := tw hF h10
            refine r_aload_n dX12_taken_61 rfl rfl ?_
            refine r_getP lk_X12_69 (ln_101 hL) (pp_101_43 hL) dX12_taken_62 ?_
            refine r_iload_n dX12_taken_65 rfl rfl ?_
            obtain ⟨g11, hF⟩ := gd hF
            refine r_iald (ln_120 hL) (by rw [(nl_120 hL)]; exact g11) dX12_taken_66 ?_
            refine r_goto (tgt := 72) dX12_taken_67 (by decide) ?_
            obtain rfl := Option.some.inj hF
            exact r_ireturn rfl rfl dX12_taken_72 (Nat.le_of_ble_eq_true rfl) (Nat.le_of_ble_eq_true rfl)
      · have hF := fw hF h4
        refine r_bipush (v := (-11)) dX12_taken_39 (by decide) ?_
        obtain rfl := Option.some.inj hF
        exact r_ireturn rfl rfl dX12_taken_41 (Nat.le_of_ble_eq_true rfl) (Nat.le_of_ble_eq_true rfl)
    · have hF := tw hF h2
      refine r_iload_n dX12_taken_16 rfl rfl ?_
      refine r_bipush (v := 10) dX12_taken_17 (by decide) ?_
      refine r_bipush (v := 13) dX12_taken_19 (by decide) ?_
      refine c_static_i (As := [.int p2, .int 10, .int 13]) mi_X12_in kw_1085 kw_1084 (ok_X12_in hL  (p1 := p2) (p2 := 10) (p3 := 13)) rfl rfl (Nat.le_of_ble_eq_true rfl) ⟨Nat.le_of_ble_eq_true rfl, Nat.le_of_ble_eq_true rfl⟩ ⟨Nat.le_of_ble_eq_true rfl, Nat.le_of_ble_eq_true rfl⟩ dX12_taken_21 ?_
      refine r_if_ne (tgt := 29) dX12_taken_24 (by decide) (fun h12 => ?_) (fun h12 => ?_)
      · have hF := fw hF h12
        refine r_aload_n dX12_taken_29 rfl rfl ?_
        refine r_iload_n dX12_taken_30 rfl rfl ?_
        obtain ⟨x13, hx13, hF⟩ := bnd hF
        refine c_virt_i (As := [.int p1]) mi_X12_kindOn kw_1397 ks_58 kw_1395 rfl (by decide) (ln_101 hL) (ok_X12_kindOn hL  hx13) rfl rfl (Nat.le_of_ble_eq_true rfl) ⟨Nat.le_of_ble_eq_true rfl, Nat.le_of_ble_eq_true rfl⟩ ⟨Nat.le_of_ble_eq_true rfl, Nat.le_of_ble_eq_true rfl⟩ dX12_taken_31 ?_
        refine r_istore_n (ls' := [(3, .int x13), (2, .int p2), (1, .int p1), (0, .ref 101)]) dX12_taken_34 rfl (by decide) rfl ?_
        refine r_iload_n dX12_taken_35 rfl rfl ?_
        refine r_if_ge (tgt := 42) dX12_taken_36 (by decide) (fun h14 => ?_) (fun h14 => ?_)
        · have hF := tw hF h14
          refine r_iload_n dX12_taken_42 rfl rfl ?_
          refine r_bipush (v := 9) dX12_taken_43 (by decide) ?_
          refine r_icmp_ne (tgt := 73) dX12_taken_45 (by decide) (fun h15 => ?_) (fun h15 => ?_)
          · have hF := fw hF h15
            refine r_iload_n dX12_taken_73 rfl rfl ?_
            refine r_bipush (v := 10) dX12_taken_74 (by decide) ?_
            refine r_icmp_ge (tgt := 96) dX12_taken_76 (by decide) (fun h16 => ?_) (fun h16 => ?_)
            · have hF := tw hF h16
              refine r_bipush (v := (-13)) dX12_taken_96 (by decide) ?_
              obtain rfl := Option.some.inj hF
              exact r_ireturn rfl rfl dX12_taken_98 (Nat.le_of_ble_eq_true rfl) (Nat.le_of_ble_eq_true rfl)
            · have hF := fw hF h16
              refine r_iload_n dX12_taken_79 rfl rfl ?_
              refine r_iload_n dX12_taken_80 rfl rfl ?_
              refine c_static_i (As := [.int x13, .int p2]) mi_X12_isUnder kw_1400 kw_1399 (ok_X12_isUnder hL  (p1 := x13) (p2 := p2)) rfl rfl (Nat.le_of_ble_eq_true rfl) ⟨Nat.le_of_ble_eq_true rfl, Nat.le_of_ble_eq_true rfl⟩ ⟨Nat.le_of_ble_eq_true rfl, Nat.le_of_ble_eq_true rfl⟩ dX12_taken_81 ?_
              refine r_if_eq (tgt := 96) dX12_taken_84 (by decide) (fun h17 => ?_) (fun h17 => ?_)
              · have hF := tw hF h17
                refine r_bipush (v := (-13)) dX12_taken_96 (by decide) ?_
                obtain rfl := Option.some.inj hF
                exact r_ireturn rfl rfl dX12_taken_98 (Nat.le_of_ble_eq_true rfl) (Nat.le_of_ble_eq_true rfl)
              · have hF := fw hF h17
                refine r_aload_n dX12_taken_87 rfl rfl ?_
                refine r_getP lk_X12_66 (ln_101 hL) (pp_101_42 hL) dX12_taken_88 ?_
                refine r_iload_n dX12_taken_91 rfl rfl ?_
                obtain ⟨g18, hF⟩ := gd hF
                refine r_iald (ln_119 hL) (by rw [(nl_119 hL)]; exact g18) dX12_taken_92 ?_
                refine r_goto (tgt := 98) dX12_taken_93 (by decide) ?_
                obtain rfl := Option.some.inj hF
                exact r_ireturn rfl rfl dX12_taken_98 (Nat.le_of_ble_eq_true rfl) (Nat.le_of_ble_eq_true rfl)
          · have hF := tw hF h15
            refine r_iload_n dX12_taken_48 rfl rfl ?_
            refine r_bipush (v := 10) dX12_taken_49 (by decide) ?_
            refine r_aload_n dX12_taken_51 rfl rfl ?_
            refine r_getP lk_X12_66 (ln_101 hL) (pp_101_42 hL) dX12_taken_52 ?_
            refine r_iload_n dX12_taken_55 rfl rfl ?_
            obtain ⟨g19, hF⟩ := gd hF
            refine r_iald (ln_119 hL) (by rw [(nl_119 hL)]; exact g19) dX12_taken_56 ?_
            refine r_iadd dX12_taken_57 ?_
            refine r_icmp_ne (tgt := 70) dX12_taken_58 (by decide) (fun h20 => ?_) (fun h20 => ?_)
            · have hF := fw hF h20
              refine r_bipush (v := (-13)) dX12_taken_70 (by decide) ?_
              obtain rfl := Option.some.inj hF
              exact r_ireturn rfl rfl dX12_taken_72 (Nat.le_of_ble_eq_true rfl) (Nat.le_of_ble_eq_true rfl)
            · have hF := tw hF h20
              refine r_aload_n dX12_taken_61 rfl rfl ?_
              refine r_getP lk_X12_69 (ln_101 hL) (pp_101_43 hL) dX12_taken_62 ?_
              refine r_iload_n dX12_taken_65 rfl rfl ?_
              obtain ⟨g21, hF⟩ := gd hF
              refine r_iald (ln_120 hL) (by rw [(nl_120 hL)]; exact g21) dX12_taken_66 ?_
              refine r_goto (tgt := 72) dX12_taken_67 (by decide) ?_
              obtain rfl := Option.some.inj hF
              exact r_ireturn rfl rfl dX12_taken_72 (Nat.le_of_ble_eq_true rfl) (Nat.le_of_ble_eq_true rfl)
        · have hF := fw hF h14
          refine r_bipush (v := (-11)) dX12_taken_39 (by decide) ?_
          obtain rfl := Option.some.inj hF
          exact r_ireturn rfl rfl dX12_taken_41 (Nat.le_of_ble_eq_true rfl) (Nat.le_of_ble_eq_true rfl)
      · have hF := tw hF h12
        refine r_iconst (v := (-1)) dX12_taken_27 (by decide) ?_
        obtain rfl := Option.some.inj hF
        exact r_ireturn rfl rfl dX12_taken_28 (Nat.le_of_ble_eq_true rfl) (Nat.le_of_ble_eq_true rfl)
def F_X12_ran (I : IM) (p1 : Int32) : Option (IM) := (if 30 ≤ (I 101 48) then (some I) else (if inb (I 101 48) 30 = true then (letb (up2 I 121 (I 101 48).toNatClampNeg p1) (fun I4 : IM => (letb (up2 I4 101 48 ((I4 101 48) + 1)) (fun I5 : IM => (some I5))))) else none))
set_option maxHeartbeats 4000000 in
theorem ok_X12_ran {E : GE} {T : TM} {I : IM} {J : JM} {P : PM} {p1 : Int32} {x : IM} (hL : LOK T P) (hF : F_X12_ran I p1 = some x) : Ctr E mX12_ran 0 0 0 [.ref 101, .int p1] T I J P none T x J P := by
  unfold F_X12_ran at hF
  refine ctr_intro rfl (by decide) (Nat.le_of_ble_eq_true rfl) ?_
  refine r_sub (ls' := [(1, .int p1), (0, .ref 101)]) [1, 0] rfl ?_
  refine r_aload_n dX12_ran_0 rfl rfl ?_
  refine r_getI lk_X12_357 (ln_101 hL) dX12_ran_1 ?_
  refine r_bipush (v := 30) dX12_ran_4 (by decide) ?_
  refine r_icmp_ge (tgt := 29) dX12_ran_6 (by decide) (fun h2 => ?_) (fun h2 => ?_)
  · have hF := tw hF h2
    obtain rfl := Option.some.inj hF
    exact r_return rfl dX12_ran_29 (Nat.le_of_ble_eq_true rfl) (Nat.le_of_ble_eq_true rfl)
  · have hF := fw hF h2
    refine r_aload_n dX12_ran_9 rfl rfl ?_
    refine r_getP lk_X12_72 (ln_101 hL) (pp_101_47 hL) dX12_ran_10 ?_
    refine r_aload_n dX12_ran_13 rfl rfl ?_
    refine r_getI lk_X12_357 (ln_101 hL) dX12_ran_14 ?_
    refine r_iload_n dX12_ran_17 rfl rfl ?_
    obtain ⟨g3, hF⟩ := gd hF
    refine r_iast (ln_121 hL) (by rw [(nl_121 hL)]; exact g3) dX12_ran_18 ?_
    refine r_letI hF (fun I4 hF => ?_)
    refine r_aload_n dX12_ran_19 rfl rfl ?_
    refine r_dup dX12_ran_20 rfl ?_
    refine r_getI lk_X12_357 (ln_101 hL) dX12_ran_21 ?_
    refine r_iconst (v := 1) dX12_ran_24 (by decide) ?_
    refine r_iadd dX12_ran_25 ?_
    refine r_putI lk_X12_357 (Or.inl rfl) (ln_101 hL) rfl rfl dX12_ran_26 ?_
    refine r_letI hF (fun I5 hF => ?_)
    obtain rfl := Option.some.inj hF
    exact r_return rfl dX12_ran_29 (Nat.le_of_ble_eq_true rfl) (Nat.le_of_ble_eq_true rfl)
def F_X12_plainFalls (I : IM) (p1 : Int32) : Option (Int32 × IM) := ((F_X12_ran I 10).bind (fun x1 => (some ((p1 + (x1 101 45)), x1))))
set_option maxHeartbeats 4000000 in
theorem ok_X12_plainFalls {E : GE} {T : TM} {I : IM} {J : JM} {P : PM} {p1 : Int32} {x : Int32 × IM} (hL : LOK T P) (hF : F_X12_plainFalls I p1 = some x) : Ctr E mX12_plainFalls 1 0 0 [.ref 101, .int p1] T I J P (some (.int x.1)) T x.2 J P := by
  unfold F_X12_plainFalls at hF
  refine ctr_intro rfl (by decide) (Nat.le_of_ble_eq_true rfl) ?_
  refine r_sub (ls' := [(1, .int p1), (0, .ref 101)]) [1, 0] rfl ?_
  refine r_aload_n dX12_plainFalls_0 rfl rfl ?_
  refine r_bipush (v := 10) dX12_plainFalls_1 (by decide) ?_
  obtain ⟨x1, hx1, hF⟩ := bnd hF
  refine c_virt_v (As := [.int 10]) mi_X12_ran kw_1412 ks_60 kw_1410 rfl (by decide) (ln_101 hL) (ok_X12_ran hL  hx1) rfl rfl (Nat.le_of_ble_eq_true rfl) ⟨Nat.le_of_ble_eq_true rfl, Nat.le_of_ble_eq_true rfl⟩ ⟨Nat.le_of_ble_eq_true rfl, Nat.le_of_ble_eq_true rfl⟩ dX12_plainFalls_3 ?_
  refine r_iload_n dX12_plainFalls_6 rfl rfl ?_
  refine r_aload_n dX12_plainFalls_7 rfl rfl ?_
  refine r_getI lk_X12_363 (ln_101 hL) dX12_plainFalls_8 ?_
  refine r_iadd dX12_plainFalls_11 ?_
  obtain rfl := Option.some.inj hF
  exact r_ireturn rfl rfl dX12_plainFalls_12 (Nat.le_of_ble_eq_true rfl) (Nat.le_of_ble_eq_true rfl)
def F_X12_fallsIt (I : IM) (p1 : Int32) : Option (Int32 × IM) := (if (I 101 44) = 2 then ((F_X12_ran I 30).bind (fun x6 => ((F_X12_plainFalls x6 p1).bind (fun x7 => (some ((x7.1 * 3), x7.2)))))) else (if (I 101 44) = 4 then ((F_X12_ran I 51).bind (fun x4 => ((F_X12_plainFalls x4 p1).bind (fun x5 => (some ((x5.1 - (x5.2 101 45)), x5.2)))))) else ((F_X12_plainFalls I p1).bind (fun x3 => (some (x3.1, x3.2))))))
set_option maxHeartbeats 4000000 in
theorem ok_X12_fallsIt {E : GE} {T : TM} {I : IM} {J : JM} {P : PM} {p1 : Int32} {x : Int32 × IM} (hL : LOK T P) (hF : F_X12_fallsIt I p1 = some x) : Ctr E mX12_fallsIt 2 0 0 [.ref 101, .int p1] T I J P (some (.int x.1)) T x.2 J P := by
  unfold F_X12_fallsIt at hF
  refine ctr_intro rfl (by decide) (Nat.le_of_ble_eq_true rfl) ?_
  refine r_sub (ls' := [(1, .int p1), (0, .ref 101)]) [1, 0] rfl ?_
  refine r_aload_n dX12_fallsIt_0 rfl rfl ?_
  refine r_getI lk_X12_366 (ln_101 hL) dX12_fallsIt_1 ?_
  refine r_iconst (v := 2) dX12_fallsIt_4 (by decide) ?_
  refine r_icmp_ne (tgt := 22) dX12_fallsIt_5 (by decide) (fun h1 => ?_) (fun h1 => ?_)
  · have hF := fw hF h1
    refine r_aload_n dX12_fallsIt_22 rfl rfl ?_
    refine r_getI lk_X12_366 (ln_101 hL) dX12_fallsIt_23 ?_
    refine r_iconst (v := 4) dX12_fallsIt_26 (by decide) ?_
    refine r_icmp_ne (tgt := 47) dX12_fallsIt_27 (by decide) (fun h2 => ?_) (fun h2 => ?_)
    · have hF := fw hF h2
      refine r_aload_n dX12_fallsIt_47 rfl rfl ?_
      refine r_iload_n dX12_fallsIt_48 rfl rfl ?_
      obtain ⟨x3, hx3, hF⟩ := bnd hF
      refine c_virt_i (As := [.int p1]) mi_X12_plainFalls kw_1416 ks_61 kw_1414 rfl (by decide) (ln_101 hL) (ok_X12_plainFalls hL  hx3) rfl rfl (Nat.le_of_ble_eq_true rfl) ⟨Nat.le_of_ble_eq_true rfl, Nat.le_of_ble_eq_true rfl⟩ ⟨Nat.le_of_ble_eq_true rfl, Nat.le_of_ble_eq_true rfl⟩ dX12_fallsIt_49 ?_
      obtain rfl := Option.some.inj hF
      exact r_ireturn rfl rfl dX12_fallsIt_52 (Nat.le_of_ble_eq_true rfl) (Nat.le_of_ble_eq_true rfl)
    · have hF := tw hF h2
      refine r_aload_n dX12_fallsIt_30 rfl rfl ?_
      refine r_bipush (v := 51) dX12_fallsIt_31 (by decide) ?_
      obtain ⟨x4, hx4, hF⟩ := bnd hF
      refine c_virt_v (As := [.int 51]) mi_X12_ran kw_1412 ks_60 kw_1410 rfl (by decide) (ln_101 hL) (ok_X12_ran hL  hx4) rfl rfl (Nat.le_of_ble_eq_true rfl) ⟨Nat.le_of_ble_eq_true rfl, Nat.le_of_ble_eq_true rfl⟩ ⟨Nat.le_of_ble_eq_true rfl, Nat.le_of_ble_eq_true rfl⟩ dX12_fallsIt_33 ?_
      refine r_aload_n dX12_fallsIt_36 rfl rfl ?_
      refine r_iload_n dX12_fallsIt_37 rfl rfl ?_
      obtain ⟨x5, hx5, hF⟩ := bnd hF
      refine c_virt_i (As := [.int p1]) mi_X12_plainFalls kw_1416 ks_61 kw_1414 rfl (by decide) (ln_101 hL) (ok_X12_plainFalls hL  hx5) rfl rfl (Nat.le_of_ble_eq_true rfl) ⟨Nat.le_of_ble_eq_true rfl, Nat.le_of_ble_eq_true rfl⟩ ⟨Nat.le_of_ble_eq_true rfl, Nat.le_of_ble_eq_true rfl⟩ dX12_fallsIt_38 ?_
      refine r_aload_n dX12_fallsIt_41 rfl rfl ?_
      refine r_getI lk_X12_363 (ln_101 hL) dX12_fallsIt_42 ?_
      refine r_isub dX12_fallsIt_45 ?_
      obtain rfl := Option.some.inj hF
      exact r_ireturn rfl rfl dX12_fallsIt_46 (Nat.le_of_ble_eq_true rfl) (Nat.le_of_ble_eq_true rfl)
  · have hF := tw hF h1
    refine r_aload_n dX12_fallsIt_8 rfl rfl ?_
    refine r_bipush (v := 30) dX12_fallsIt_9 (by decide) ?_
    obtain ⟨x6, hx6, hF⟩ := bnd hF
    refine c_virt_v (As := [.int 30]) mi_X12_ran kw_1412 ks_60 kw_1410 rfl (by decide) (ln_101 hL) (ok_X12_ran hL  hx6) rfl rfl (Nat.le_of_ble_eq_true rfl) ⟨Nat.le_of_ble_eq_true rfl, Nat.le_of_ble_eq_true rfl⟩ ⟨Nat.le_of_ble_eq_true rfl, Nat.le_of_ble_eq_true rfl⟩ dX12_fallsIt_11 ?_
    refine r_aload_n dX12_fallsIt_14 rfl rfl ?_
    refine r_iload_n dX12_fallsIt_15 rfl rfl ?_
    obtain ⟨x7, hx7, hF⟩ := bnd hF
    refine c_virt_i (As := [.int p1]) mi_X12_plainFalls kw_1416 ks_61 kw_1414 rfl (by decide) (ln_101 hL) (ok_X12_plainFalls hL  hx7) rfl rfl (Nat.le_of_ble_eq_true rfl) ⟨Nat.le_of_ble_eq_true rfl, Nat.le_of_ble_eq_true rfl⟩ ⟨Nat.le_of_ble_eq_true rfl, Nat.le_of_ble_eq_true rfl⟩ dX12_fallsIt_16 ?_
    refine r_iconst (v := 3) dX12_fallsIt_19 (by decide) ?_
    refine r_imul dX12_fallsIt_20 ?_
    obtain rfl := Option.some.inj hF
    exact r_ireturn rfl rfl dX12_fallsIt_21 (Nat.le_of_ble_eq_true rfl) (Nat.le_of_ble_eq_true rfl)
def F_X12_plainTurns (I : IM) (p1 : Int32) : Option (Int32 × IM) := ((F_X12_ran I 11).bind (fun x1 => ((F_X12_fallsIt x1 p1).bind (fun x2 => (some ((x2.1 * 2), x2.2))))))
set_option maxHeartbeats 4000000 in
theorem ok_X12_plainTurns {E : GE} {T : TM} {I : IM} {J : JM} {P : PM} {p1 : Int32} {x : Int32 × IM} (hL : LOK T P) (hF : F_X12_plainTurns I p1 = some x) : Ctr E mX12_plainTurns 3 0 0 [.ref 101, .int p1] T I J P (some (.int x.1)) T x.2 J P := by
  unfold F_X12_plainTurns at hF
  refine ctr_intro rfl (by decide) (Nat.le_of_ble_eq_true rfl) ?_
  refine r_sub (ls' := [(1, .int p1), (0, .ref 101)]) [1, 0] rfl ?_
  refine r_aload_n dX12_plainTurns_0 rfl rfl ?_
  refine r_bipush (v := 11) dX12_plainTurns_1 (by decide) ?_
  obtain ⟨x1, hx1, hF⟩ := bnd hF
  refine c_virt_v (As := [.int 11]) mi_X12_ran kw_1412 ks_60 kw_1410 rfl (by decide) (ln_101 hL) (ok_X12_ran hL  hx1) rfl rfl (Nat.le_of_ble_eq_true rfl) ⟨Nat.le_of_ble_eq_true rfl, Nat.le_of_ble_eq_true rfl⟩ ⟨Nat.le_of_ble_eq_true rfl, Nat.le_of_ble_eq_true rfl⟩ dX12_plainTurns_3 ?_
  refine r_aload_n dX12_plainTurns_6 rfl rfl ?_
  refine r_iload_n dX12_plainTurns_7 rfl rfl ?_
  obtain ⟨x2, hx2, hF⟩ := bnd hF
  refine c_virt_i (As := [.int p1]) mi_X12_fallsIt kw_1408 ks_59 kw_1406 rfl (by decide) (ln_101 hL) (ok_X12_fallsIt hL  hx2) rfl rfl (Nat.le_of_ble_eq_true rfl) ⟨Nat.le_of_ble_eq_true rfl, Nat.le_of_ble_eq_true rfl⟩ ⟨Nat.le_of_ble_eq_true rfl, Nat.le_of_ble_eq_true rfl⟩ dX12_plainTurns_8 ?_
  refine r_iconst (v := 2) dX12_plainTurns_11 (by decide) ?_
  refine r_imul dX12_plainTurns_12 ?_
  obtain rfl := Option.some.inj hF
  exact r_ireturn rfl rfl dX12_plainTurns_13 (Nat.le_of_ble_eq_true rfl) (Nat.le_of_ble_eq_true rfl)
def F_X12_turnsIt (I : IM) (p1 : Int32) : Option (Int32 × IM) := (if (I 101 44) = 1 then ((F_X12_ran I 20).bind (fun x2 => ((F_X12_plainTurns x2 p1).bind (fun x3 => (some ((x3.1 - (x3.2 101 46)), x3.2)))))) else (if (I 101 44) = 4 then ((F_X12_ran I 20).bind (fun x12 => ((F_X12_plainTurns x12 p1).bind (fun x13 => (some ((x13.1 - (x13.2 101 46)), x13.2)))))) else (if (I 101 44) = 3 then ((F_X12_ran I 40).bind (fun x6 => ((F_X12_plainTurns x6 p1).bind (fun x7 => (some ((0 - x7.1), x7.2)))))) else (if (I 101 44) = 5 then ((F_X12_ran I 40).bind (fun x10 => ((F_X12_plainTurns x10 p1).bind (fun x11 => (some ((0 - x11.1), x11.2)))))) else ((F_X12_plainTurns I p1).bind (fun x9 => (some (x9.1, x9.2))))))))
set_option maxHeartbeats 4000000 in
theorem ok_X12_turnsIt {E : GE} {T : TM} {I : IM} {J : JM} {P : PM} {p1 : Int32} {x : Int32 × IM} (hL : LOK T P) (hF : F_X12_turnsIt I p1 = some x) : Ctr E mX12_turnsIt 4 0 0 [.ref 101, .int p1] T I J P (some (.int x.1)) T x.2 J P := by
  unfold F_X12_turnsIt at hF
  refine ctr_intro rfl (by decide) (Nat.le_of_ble_eq_true rfl) ?_
  refine r_sub (ls' := [(1, .int p1), (0, .ref 101)]) [1, 0] rfl ?_
  refine r_aload_n dX12_turnsIt_0 rfl rfl ?_
  refine r_getI lk_X12_366 (ln_101 hL) dX12_turnsIt_1 ?_
  refine r_iconst (v := 1) dX12_turnsIt_4 (by decide) ?_
  refine r_icmp_eq (tgt := 16) dX12_turnsIt_5 (by decide) (fun h1 => ?_) (fun h1 => ?_)
  · have hF := tw hF h1
    refine r_aload_n dX12_turnsIt_16 rfl rfl ?_
    refine r_bipush (v := 20) dX12_turnsIt_17 (by decide) ?_
    obtain ⟨x2, hx2, hF⟩ := bnd hF
    refine c_virt_v (As := [.int 20]) mi_X12_ran kw_1412 ks_60 kw_1410 rfl (by decide) (ln_101 hL) (ok_X12_ran hL  hx2) rfl rfl (Nat.le_of_ble_eq_true rfl) ⟨Nat.le_of_ble_eq_true rfl, Nat.le_of_ble_eq_true rfl⟩ ⟨Nat.le_of_ble_eq_true rfl, Nat.le_of_ble_eq_true rfl⟩ dX12_turnsIt_19 ?_
    refine r_aload_n dX12_turnsIt_22 rfl rfl ?_
    refine r_iload_n dX12_turnsIt_23 rfl rfl ?_
    obtain ⟨x3, hx3, hF⟩ := bnd hF
    refine c_virt_i (As := [.int p1]) mi_X12_plainTurns kw_1424 ks_63 kw_1422 rfl (by decide) (ln_101 hL) (ok_X12_plainTurns hL  hx3) rfl rfl (Nat.le_of_ble_eq_true rfl) ⟨Nat.le_of_ble_eq_true rfl, Nat.le_of_ble_eq_true rfl⟩ ⟨Nat.le_of_ble_eq_true rfl, Nat.le_of_ble_eq_true rfl⟩ dX12_turnsIt_24 ?_
    refine r_aload_n dX12_turnsIt_27 rfl rfl ?_
    refine r_getI lk_X12_378 (ln_101 hL) dX12_turnsIt_28 ?_
    refine r_isub dX12_turnsIt_31 ?_
    obtain rfl := Option.some.inj hF
    exact r_ireturn rfl rfl dX12_turnsIt_32 (Nat.le_of_ble_eq_true rfl) (Nat.le_of_ble_eq_true rfl)
  · have hF := fw hF h1
    refine r_aload_n dX12_turnsIt_8 rfl rfl ?_
    refine r_getI lk_X12_366 (ln_101 hL) dX12_turnsIt_9 ?_
    refine r_iconst (v := 4) dX12_turnsIt_12 (by decide) ?_
    refine r_icmp_ne (tgt := 33) dX12_turnsIt_13 (by decide) (fun h4 => ?_) (fun h4 => ?_)
    · have hF := fw hF h4
      refine r_aload_n dX12_turnsIt_33 rfl rfl ?_
      refine r_getI lk_X12_366 (ln_101 hL) dX12_turnsIt_34 ?_
      refine r_iconst (v := 3) dX12_turnsIt_37 (by decide) ?_
      refine r_icmp_eq (tgt := 49) dX12_turnsIt_38 (by decide) (fun h5 => ?_) (fun h5 => ?_)
      · have hF := tw hF h5
        refine r_aload_n dX12_turnsIt_49 rfl rfl ?_
        refine r_bipush (v := 40) dX12_turnsIt_50 (by decide) ?_
        obtain ⟨x6, hx6, hF⟩ := bnd hF
        refine c_virt_v (As := [.int 40]) mi_X12_ran kw_1412 ks_60 kw_1410 rfl (by decide) (ln_101 hL) (ok_X12_ran hL  hx6) rfl rfl (Nat.le_of_ble_eq_true rfl) ⟨Nat.le_of_ble_eq_true rfl, Nat.le_of_ble_eq_true rfl⟩ ⟨Nat.le_of_ble_eq_true rfl, Nat.le_of_ble_eq_true rfl⟩ dX12_turnsIt_52 ?_
        refine r_iconst (v := 0) dX12_turnsIt_55 (by decide) ?_
        refine r_aload_n dX12_turnsIt_56 rfl rfl ?_
        refine r_iload_n dX12_turnsIt_57 rfl rfl ?_
        obtain ⟨x7, hx7, hF⟩ := bnd hF
        refine c_virt_i (As := [.int p1]) mi_X12_plainTurns kw_1424 ks_63 kw_1422 rfl (by decide) (ln_101 hL) (ok_X12_plainTurns hL  hx7) rfl rfl (Nat.le_of_ble_eq_true rfl) ⟨Nat.le_of_ble_eq_true rfl, Nat.le_of_ble_eq_true rfl⟩ ⟨Nat.le_of_ble_eq_true rfl, Nat.le_of_ble_eq_true rfl⟩ dX12_turnsIt_58 ?_
        refine r_isub dX12_turnsIt_61 ?_
        obtain rfl := Option.some.inj hF
        exact r_ireturn rfl rfl dX12_turnsIt_62 (Nat.le_of_ble_eq_true rfl) (Nat.le_of_ble_eq_true rfl)
      · have hF := fw hF h5
        refine r_aload_n dX12_turnsIt_41 rfl rfl ?_
        refine r_getI lk_X12_366 (ln_101 hL) dX12_turnsIt_42 ?_
        refine r_iconst (v := 5) dX12_turnsIt_45 (by decide) ?_
        refine r_icmp_ne (tgt := 63) dX12_turnsIt_46 (by decide) (fun h8 => ?_) (fun h8 => ?_)
        · have hF := fw hF h8
          refine r_aload_n dX12_turnsIt_63 rfl rfl ?_
          refine r_iload_n dX12_turnsIt_64 rfl rfl ?_
          obtain ⟨x9, hx9, hF⟩ := bnd hF
          refine c_virt_i (As := [.int p1]) mi_X12_plainTurns kw_1424 ks_63 kw_1422 rfl (by decide) (ln_101 hL) (ok_X12_plainTurns hL  hx9) rfl rfl (Nat.le_of_ble_eq_true rfl) ⟨Nat.le_of_ble_eq_true rfl, Nat.le_of_ble_eq_true rfl⟩ ⟨Nat.le_of_ble_eq_true rfl, Nat.le_of_ble_eq_true rfl⟩ dX12_turnsIt_65 ?_
          obtain rfl := Option.some.inj hF
          exact r_ireturn rfl rfl dX12_turnsIt_68 (Nat.le_of_ble_eq_true rfl) (Nat.le_of_ble_eq_true rfl)
        · have hF := tw hF h8
          refine r_aload_n dX12_turnsIt_49 rfl rfl ?_
          refine r_bipush (v := 40) dX12_turnsIt_50 (by decide) ?_
          obtain ⟨x10, hx10, hF⟩ := bnd hF
          refine c_virt_v (As := [.int 40]) mi_X12_ran kw_1412 ks_60 kw_1410 rfl (by decide) (ln_101 hL) (ok_X12_ran hL  hx10) rfl rfl (Nat.le_of_ble_eq_true rfl) ⟨Nat.le_of_ble_eq_true rfl, Nat.le_of_ble_eq_true rfl⟩ ⟨Nat.le_of_ble_eq_true rfl, Nat.le_of_ble_eq_true rfl⟩ dX12_turnsIt_52 ?_
          refine r_iconst (v := 0) dX12_turnsIt_55 (by decide) ?_
          refine r_aload_n dX12_turnsIt_56 rfl rfl ?_
          refine r_iload_n dX12_turnsIt_57 rfl rfl ?_
          obtain ⟨x11, hx11, hF⟩ := bnd hF
          refine c_virt_i (As := [.int p1]) mi_X12_plainTurns kw_1424 ks_63 kw_1422 rfl (by decide) (ln_101 hL) (ok_X12_plainTurns hL  hx11) rfl rfl (Nat.le_of_ble_eq_true rfl) ⟨Nat.le_of_ble_eq_true rfl, Nat.le_of_ble_eq_true rfl⟩ ⟨Nat.le_of_ble_eq_true rfl, Nat.le_of_ble_eq_true rfl⟩ dX12_turnsIt_58 ?_
          refine r_isub dX12_turnsIt_61 ?_
          obtain rfl := Option.some.inj hF
          exact r_ireturn rfl rfl dX12_turnsIt_62 (Nat.le_of_ble_eq_true rfl) (Nat.le_of_ble_eq_true rfl)
    · have hF := tw hF h4
      refine r_aload_n dX12_turnsIt_16 rfl rfl ?_
      refine r_bipush (v := 20) dX12_turnsIt_17 (by decide) ?_
      obtain ⟨x12, hx12, hF⟩ := bnd hF
      refine c_virt_v (As := [.int 20]) mi_X12_ran kw_1412 ks_60 kw_1410 rfl (by decide) (ln_101 hL) (ok_X12_ran hL  hx12) rfl rfl (Nat.le_of_ble_eq_true rfl) ⟨Nat.le_of_ble_eq_true rfl, Nat.le_of_ble_eq_true rfl⟩ ⟨Nat.le_of_ble_eq_true rfl, Nat.le_of_ble_eq_true rfl⟩ dX12_turnsIt_19 ?_
      refine r_aload_n dX12_turnsIt_22 rfl rfl ?_
      refine r_iload_n dX12_turnsIt_23 rfl rfl ?_
      obtain ⟨x13, hx13, hF⟩ := bnd hF
      refine c_virt_i (As := [.int p1]) mi_X12_plainTurns kw_1424 ks_63 kw_1422 rfl (by decide) (ln_101 hL) (ok_X12_plainTurns hL  hx13) rfl rfl (Nat.le_of_ble_eq_true rfl) ⟨Nat.le_of_ble_eq_true rfl, Nat.le_of_ble_eq_true rfl⟩ ⟨Nat.le_of_ble_eq_true rfl, Nat.le_of_ble_eq_true rfl⟩ dX12_turnsIt_24 ?_
      refine r_aload_n dX12_turnsIt_27 rfl rfl ?_
      refine r_getI lk_X12_378 (ln_101 hL) dX12_turnsIt_28 ?_
      refine r_isub dX12_turnsIt_31 ?_
      obtain rfl := Option.some.inj hF
      exact r_ireturn rfl rfl dX12_turnsIt_32 (Nat.le_of_ble_eq_true rfl) (Nat.le_of_ble_eq_true rfl)
def F_X12_plainShares (I : IM) (p1 : Int32) : Option (Int32 × IM) := ((F_X12_ran I 12).bind (fun x1 => (if (x1 101 46) = (x1 101 45) then (letb (up2 x1 101 49 1) (fun I4 : IM => (some (0, I4)))) else (if ¬ ((x1 101 46) - (x1 101 45)) = 0 then (some ((p1 / ((x1 101 46) - (x1 101 45))), x1)) else none))))
set_option maxHeartbeats 4000000 in
theorem ok_X12_plainShares {E : GE} {T : TM} {I : IM} {J : JM} {P : PM} {p1 : Int32} {x : Int32 × IM} (hL : LOK T P) (hF : F_X12_plainShares I p1 = some x) : Ctr E mX12_plainShares 1 0 0 [.ref 101, .int p1] T I J P (some (.int x.1)) T x.2 J P := by
  unfold F_X12_plainShares at hF
  refine ctr_intro rfl (by decide) (Nat.le_of_ble_eq_true rfl) ?_
  refine r_sub (ls' := [(1, .int p1), (0, .ref 101)]) [1, 0] rfl ?_
  refine r_aload_n dX12_plainShares_0 rfl rfl ?_
  refine r_bipush (v := 12) dX12_plainShares_1 (by decide) ?_
  obtain ⟨x1, hx1, hF⟩ := bnd hF
  refine c_virt_v (As := [.int 12]) mi_X12_ran kw_1412 ks_60 kw_1410 rfl (by decide) (ln_101 hL) (ok_X12_ran hL  hx1) rfl rfl (Nat.le_of_ble_eq_true rfl) ⟨Nat.le_of_ble_eq_true rfl, Nat.le_of_ble_eq_true rfl⟩ ⟨Nat.le_of_ble_eq_true rfl, Nat.le_of_ble_eq_true rfl⟩ dX12_plainShares_3 ?_
  refine r_aload_n dX12_plainShares_6 rfl rfl ?_
  refine r_getI lk_X12_378 (ln_101 hL) dX12_plainShares_7 ?_
  refine r_aload_n dX12_plainShares_10 rfl rfl ?_
  refine r_getI lk_X12_363 (ln_101 hL) dX12_plainShares_11 ?_
  refine r_icmp_ne (tgt := 24) dX12_plainShares_14 (by decide) (fun h2 => ?_) (fun h2 => ?_)
  · have hF := fw hF h2
    refine r_iload_n dX12_plainShares_24 rfl rfl ?_
    refine r_aload_n dX12_plainShares_25 rfl rfl ?_
    refine r_getI lk_X12_378 (ln_101 hL) dX12_plainShares_26 ?_
    refine r_aload_n dX12_plainShares_29 rfl rfl ?_
    refine r_getI lk_X12_363 (ln_101 hL) dX12_plainShares_30 ?_
    refine r_isub dX12_plainShares_33 ?_
    obtain ⟨g3, hF⟩ := gd hF
    refine r_idiv dX12_plainShares_34 g3 ?_
    obtain rfl := Option.some.inj hF
    exact r_ireturn rfl rfl dX12_plainShares_35 (Nat.le_of_ble_eq_true rfl) (Nat.le_of_ble_eq_true rfl)
  · have hF := tw hF h2
    refine r_aload_n dX12_plainShares_17 rfl rfl ?_
    refine r_iconst (v := 1) dX12_plainShares_18 (by decide) ?_
    refine r_putI lk_X12_381 (Or.inl rfl) (ln_101 hL) rfl rfl dX12_plainShares_19 ?_
    refine r_letI hF (fun I4 hF => ?_)
    refine r_iconst (v := 0) dX12_plainShares_22 (by decide) ?_
    obtain rfl := Option.some.inj hF
    exact r_ireturn rfl rfl dX12_plainShares_23 (Nat.le_of_ble_eq_true rfl) (Nat.le_of_ble_eq_true rfl)
def F_X12_sharesIt (I : IM) (p1 : Int32) : Option (Int32 × IM) := (if (I 101 44) = 4 then ((F_X12_ran I 50).bind (fun x8 => ((F_X12_plainShares x8 (p1 + 2)).bind (fun x9 => (some ((x9.1 ^^^ 1), x9.2)))))) else (if (I 101 44) = 5 then ((F_X12_ran I 61).bind (fun x4 => ((F_X12_plainShares x4 p1).bind (fun x5 => (if (x5.2 101 49) = 0 then ((F_X12_fallsIt x5.2 (x5.2 101 46)).bind (fun x7 => (some ((x5.1 + x7.1), x7.2)))) else (some (0, x5.2))))))) else ((F_X12_plainShares I p1).bind (fun x3 => (some (x3.1, x3.2))))))
set_option maxHeartbeats 4000000 in
theorem ok_X12_sharesIt {E : GE} {T : TM} {I : IM} {J : JM} {P : PM} {p1 : Int32} {x : Int32 × IM} (hL : LOK T P) (hF : F_X12_sharesIt I p1 = some x) : Ctr E mX12_sharesIt 3 0 0 [.ref 101, .int p1] T I J P (some (.int x.1)) T x.2 J P := by
  unfold F_X12_sharesIt at hF
  refine ctr_intro rfl (by decide) (Nat.le_of_ble_eq_true rfl) ?_
  refine r_sub (ls' := [(1, .int p1), (0, .ref 101)]) [1, 0] rfl ?_
  refine r_aload_n dX12_sharesIt_0 rfl rfl ?_
  refine r_getI lk_X12_366 (ln_101 hL) dX12_sharesIt_1 ?_
  refine r_iconst (v := 4) dX12_sharesIt_4 (by decide) ?_
  refine r_icmp_ne (tgt := 24) dX12_sharesIt_5 (by decide) (fun h1 => ?_) (fun h1 => ?_)
  · have hF := fw hF h1
    refine r_aload_n dX12_sharesIt_24 rfl rfl ?_
    refine r_getI lk_X12_366 (ln_101 hL) dX12_sharesIt_25 ?_
    refine r_iconst (v := 5) dX12_sharesIt_28 (by decide) ?_
    refine r_icmp_ne (tgt := 66) dX12_sharesIt_29 (by decide) (fun h2 => ?_) (fun h2 => ?_)
    · have hF := fw hF h2
      refine r_aload_n dX12_sharesIt_66 rfl rfl ?_
      refine r_iload_n dX12_sharesIt_67 rfl rfl ?_
      obtain ⟨x3, hx3, hF⟩ := bnd hF
      refine c_virt_i (As := [.int p1]) mi_X12_plainShares kw_1432 ks_65 kw_1430 rfl (by decide) (ln_101 hL) (ok_X12_plainShares hL  hx3) rfl rfl (Nat.le_of_ble_eq_true rfl) ⟨Nat.le_of_ble_eq_true rfl, Nat.le_of_ble_eq_true rfl⟩ ⟨Nat.le_of_ble_eq_true rfl, Nat.le_of_ble_eq_true rfl⟩ dX12_sharesIt_68 ?_
      obtain rfl := Option.some.inj hF
      exact r_ireturn rfl rfl dX12_sharesIt_71 (Nat.le_of_ble_eq_true rfl) (Nat.le_of_ble_eq_true rfl)
    · have hF := tw hF h2
      refine r_aload_n dX12_sharesIt_32 rfl rfl ?_
      refine r_bipush (v := 61) dX12_sharesIt_33 (by decide) ?_
      obtain ⟨x4, hx4, hF⟩ := bnd hF
      refine c_virt_v (As := [.int 61]) mi_X12_ran kw_1412 ks_60 kw_1410 rfl (by decide) (ln_101 hL) (ok_X12_ran hL  hx4) rfl rfl (Nat.le_of_ble_eq_true rfl) ⟨Nat.le_of_ble_eq_true rfl, Nat.le_of_ble_eq_true rfl⟩ ⟨Nat.le_of_ble_eq_true rfl, Nat.le_of_ble_eq_true rfl⟩ dX12_sharesIt_35 ?_
      refine r_aload_n dX12_sharesIt_38 rfl rfl ?_
      refine r_iload_n dX12_sharesIt_39 rfl rfl ?_
      obtain ⟨x5, hx5, hF⟩ := bnd hF
      refine c_virt_i (As := [.int p1]) mi_X12_plainShares kw_1432 ks_65 kw_1430 rfl (by decide) (ln_101 hL) (ok_X12_plainShares hL  hx5) rfl rfl (Nat.le_of_ble_eq_true rfl) ⟨Nat.le_of_ble_eq_true rfl, Nat.le_of_ble_eq_true rfl⟩ ⟨Nat.le_of_ble_eq_true rfl, Nat.le_of_ble_eq_true rfl⟩ dX12_sharesIt_40 ?_
      refine r_istore_n (ls' := [(2, .int x5.1), (1, .int p1), (0, .ref 101)]) dX12_sharesIt_43 rfl (by decide) rfl ?_
      refine r_aload_n dX12_sharesIt_44 rfl rfl ?_
      refine r_getI lk_X12_381 (ln_101 hL) dX12_sharesIt_45 ?_
      refine r_if_eq (tgt := 55) dX12_sharesIt_48 (by decide) (fun h6 => ?_) (fun h6 => ?_)
      · have hF := tw hF h6
        refine r_iload_n dX12_sharesIt_55 rfl rfl ?_
        refine r_aload_n dX12_sharesIt_56 rfl rfl ?_
        refine r_aload_n dX12_sharesIt_57 rfl rfl ?_
        refine r_getI lk_X12_378 (ln_101 hL) dX12_sharesIt_58 ?_
        obtain ⟨x7, hx7, hF⟩ := bnd hF
        refine c_virt_i (As := [.int (x5.2 101 46)]) mi_X12_fallsIt kw_1408 ks_59 kw_1406 rfl (by decide) (ln_101 hL) (ok_X12_fallsIt hL  hx7) rfl rfl (Nat.le_of_ble_eq_true rfl) ⟨Nat.le_of_ble_eq_true rfl, Nat.le_of_ble_eq_true rfl⟩ ⟨Nat.le_of_ble_eq_true rfl, Nat.le_of_ble_eq_true rfl⟩ dX12_sharesIt_61 ?_
        refine r_iadd dX12_sharesIt_64 ?_
        obtain rfl := Option.some.inj hF
        exact r_ireturn rfl rfl dX12_sharesIt_65 (Nat.le_of_ble_eq_true rfl) (Nat.le_of_ble_eq_true rfl)
      · have hF := fw hF h6
        refine r_iconst (v := 0) dX12_sharesIt_51 (by decide) ?_
        refine r_goto (tgt := 65) dX12_sharesIt_52 (by decide) ?_
        obtain rfl := Option.some.inj hF
        exact r_ireturn rfl rfl dX12_sharesIt_65 (Nat.le_of_ble_eq_true rfl) (Nat.le_of_ble_eq_true rfl)
  · have hF := tw hF h1
    refine r_aload_n dX12_sharesIt_8 rfl rfl ?_
    refine r_bipush (v := 50) dX12_sharesIt_9 (by decide) ?_
    obtain ⟨x8, hx8, hF⟩ := bnd hF
    refine c_virt_v (As := [.int 50]) mi_X12_ran kw_1412 ks_60 kw_1410 rfl (by decide) (ln_101 hL) (ok_X12_ran hL  hx8) rfl rfl (Nat.le_of_ble_eq_true rfl) ⟨Nat.le_of_ble_eq_true rfl, Nat.le_of_ble_eq_true rfl⟩ ⟨Nat.le_of_ble_eq_true rfl, Nat.le_of_ble_eq_true rfl⟩ dX12_sharesIt_11 ?_
    refine r_aload_n dX12_sharesIt_14 rfl rfl ?_
    refine r_iload_n dX12_sharesIt_15 rfl rfl ?_
    refine r_iconst (v := 2) dX12_sharesIt_16 (by decide) ?_
    refine r_iadd dX12_sharesIt_17 ?_
    obtain ⟨x9, hx9, hF⟩ := bnd hF
    refine c_virt_i (As := [.int (p1 + 2)]) mi_X12_plainShares kw_1432 ks_65 kw_1430 rfl (by decide) (ln_101 hL) (ok_X12_plainShares hL  hx9) rfl rfl (Nat.le_of_ble_eq_true rfl) ⟨Nat.le_of_ble_eq_true rfl, Nat.le_of_ble_eq_true rfl⟩ ⟨Nat.le_of_ble_eq_true rfl, Nat.le_of_ble_eq_true rfl⟩ dX12_sharesIt_18 ?_
    refine r_iconst (v := 1) dX12_sharesIt_21 (by decide) ?_
    refine r_ixor dX12_sharesIt_22 ?_
    obtain rfl := Option.some.inj hF
    exact r_ireturn rfl rfl dX12_sharesIt_23 (Nat.le_of_ble_eq_true rfl) (Nat.le_of_ble_eq_true rfl)
def F_X12_plainTells (I : IM) (p1 : Int32) : Option (Int32 × IM) := ((F_X12_ran I 13).bind (fun x1 => ((F_X12_turnsIt x1 p1).bind (fun x2 => (some ((x2.1 ^^^ (x2.2 101 46)), x2.2))))))
set_option maxHeartbeats 4000000 in
theorem ok_X12_plainTells {E : GE} {T : TM} {I : IM} {J : JM} {P : PM} {p1 : Int32} {x : Int32 × IM} (hL : LOK T P) (hF : F_X12_plainTells I p1 = some x) : Ctr E mX12_plainTells 5 0 0 [.ref 101, .int p1] T I J P (some (.int x.1)) T x.2 J P := by
  unfold F_X12_plainTells at hF
  refine ctr_intro rfl (by decide) (Nat.le_of_ble_eq_true rfl) ?_
  refine r_sub (ls' := [(1, .int p1), (0, .ref 101)]) [1, 0] rfl ?_
  refine r_aload_n dX12_plainTells_0 rfl rfl ?_
  refine r_bipush (v := 13) dX12_plainTells_1 (by decide) ?_
  obtain ⟨x1, hx1, hF⟩ := bnd hF
  refine c_virt_v (As := [.int 13]) mi_X12_ran kw_1412 ks_60 kw_1410 rfl (by decide) (ln_101 hL) (ok_X12_ran hL  hx1) rfl rfl (Nat.le_of_ble_eq_true rfl) ⟨Nat.le_of_ble_eq_true rfl, Nat.le_of_ble_eq_true rfl⟩ ⟨Nat.le_of_ble_eq_true rfl, Nat.le_of_ble_eq_true rfl⟩ dX12_plainTells_3 ?_
  refine r_aload_n dX12_plainTells_6 rfl rfl ?_
  refine r_iload_n dX12_plainTells_7 rfl rfl ?_
  obtain ⟨x2, hx2, hF⟩ := bnd hF
  refine c_virt_i (As := [.int p1]) mi_X12_turnsIt kw_1420 ks_62 kw_1418 rfl (by decide) (ln_101 hL) (ok_X12_turnsIt hL  hx2) rfl rfl (Nat.le_of_ble_eq_true rfl) ⟨Nat.le_of_ble_eq_true rfl, Nat.le_of_ble_eq_true rfl⟩ ⟨Nat.le_of_ble_eq_true rfl, Nat.le_of_ble_eq_true rfl⟩ dX12_plainTells_8 ?_
  refine r_aload_n dX12_plainTells_11 rfl rfl ?_
  refine r_getI lk_X12_378 (ln_101 hL) dX12_plainTells_12 ?_
  refine r_ixor dX12_plainTells_15 ?_
  obtain rfl := Option.some.inj hF
  exact r_ireturn rfl rfl dX12_plainTells_16 (Nat.le_of_ble_eq_true rfl) (Nat.le_of_ble_eq_true rfl)
def F_X12_tellsIt (I : IM) (p1 : Int32) : Option (Int32 × IM) := (if (I 101 44) = 2 then ((F_X12_ran I 31).bind (fun x6 => ((F_X12_plainTells x6 p1).bind (fun x7 => ((F_X12_sharesIt x7.2 (x7.2 101 45)).bind (fun x8 => (some ((x7.1 + x8.1), x8.2)))))))) else (if (I 101 44) = 5 then ((F_X12_ran I 60).bind (fun x4 => ((F_X12_plainTells x4 p1).bind (fun x5 => (some ((x5.1 * 2), x5.2)))))) else ((F_X12_plainTells I p1).bind (fun x3 => (some (x3.1, x3.2))))))
set_option maxHeartbeats 4000000 in
theorem ok_X12_tellsIt {E : GE} {T : TM} {I : IM} {J : JM} {P : PM} {p1 : Int32} {x : Int32 × IM} (hL : LOK T P) (hF : F_X12_tellsIt I p1 = some x) : Ctr E mX12_tellsIt 6 0 0 [.ref 101, .int p1] T I J P (some (.int x.1)) T x.2 J P := by
  unfold F_X12_tellsIt at hF
  refine ctr_intro rfl (by decide) (Nat.le_of_ble_eq_true rfl) ?_
  refine r_sub (ls' := [(1, .int p1), (0, .ref 101)]) [1, 0] rfl ?_
  refine r_aload_n dX12_tellsIt_0 rfl rfl ?_
  refine r_getI lk_X12_366 (ln_101 hL) dX12_tellsIt_1 ?_
  refine r_iconst (v := 2) dX12_tellsIt_4 (by decide) ?_
  refine r_icmp_ne (tgt := 31) dX12_tellsIt_5 (by decide) (fun h1 => ?_) (fun h1 => ?_)
  · have hF := fw hF h1
    refine r_aload_n dX12_tellsIt_31 rfl rfl ?_
    refine r_getI lk_X12_366 (ln_101 hL) dX12_tellsIt_32 ?_
    refine r_iconst (v := 5) dX12_tellsIt_35 (by decide) ?_
    refine r_icmp_ne (tgt := 53) dX12_tellsIt_36 (by decide) (fun h2 => ?_) (fun h2 => ?_)
    · have hF := fw hF h2
      refine r_aload_n dX12_tellsIt_53 rfl rfl ?_
      refine r_iload_n dX12_tellsIt_54 rfl rfl ?_
      obtain ⟨x3, hx3, hF⟩ := bnd hF
      refine c_virt_i (As := [.int p1]) mi_X12_plainTells kw_1440 ks_67 kw_1438 rfl (by decide) (ln_101 hL) (ok_X12_plainTells hL  hx3) rfl rfl (Nat.le_of_ble_eq_true rfl) ⟨Nat.le_of_ble_eq_true rfl, Nat.le_of_ble_eq_true rfl⟩ ⟨Nat.le_of_ble_eq_true rfl, Nat.le_of_ble_eq_true rfl⟩ dX12_tellsIt_55 ?_
      obtain rfl := Option.some.inj hF
      exact r_ireturn rfl rfl dX12_tellsIt_58 (Nat.le_of_ble_eq_true rfl) (Nat.le_of_ble_eq_true rfl)
    · have hF := tw hF h2
      refine r_aload_n dX12_tellsIt_39 rfl rfl ?_
      refine r_bipush (v := 60) dX12_tellsIt_40 (by decide) ?_
      obtain ⟨x4, hx4, hF⟩ := bnd hF
      refine c_virt_v (As := [.int 60]) mi_X12_ran kw_1412 ks_60 kw_1410 rfl (by decide) (ln_101 hL) (ok_X12_ran hL  hx4) rfl rfl (Nat.le_of_ble_eq_true rfl) ⟨Nat.le_of_ble_eq_true rfl, Nat.le_of_ble_eq_true rfl⟩ ⟨Nat.le_of_ble_eq_true rfl, Nat.le_of_ble_eq_true rfl⟩ dX12_tellsIt_42 ?_
      refine r_aload_n dX12_tellsIt_45 rfl rfl ?_
      refine r_iload_n dX12_tellsIt_46 rfl rfl ?_
      obtain ⟨x5, hx5, hF⟩ := bnd hF
      refine c_virt_i (As := [.int p1]) mi_X12_plainTells kw_1440 ks_67 kw_1438 rfl (by decide) (ln_101 hL) (ok_X12_plainTells hL  hx5) rfl rfl (Nat.le_of_ble_eq_true rfl) ⟨Nat.le_of_ble_eq_true rfl, Nat.le_of_ble_eq_true rfl⟩ ⟨Nat.le_of_ble_eq_true rfl, Nat.le_of_ble_eq_true rfl⟩ dX12_tellsIt_47 ?_
      refine r_iconst (v := 2) dX12_tellsIt_50 (by decide) ?_
      refine r_imul dX12_tellsIt_51 ?_
      obtain rfl := Option.some.inj hF
      exact r_ireturn rfl rfl dX12_tellsIt_52 (Nat.le_of_ble_eq_true rfl) (Nat.le_of_ble_eq_true rfl)
  · have hF := tw hF h1
    refine r_aload_n dX12_tellsIt_8 rfl rfl ?_
    refine r_bipush (v := 31) dX12_tellsIt_9 (by decide) ?_
    obtain ⟨x6, hx6, hF⟩ := bnd hF
    refine c_virt_v (As := [.int 31]) mi_X12_ran kw_1412 ks_60 kw_1410 rfl (by decide) (ln_101 hL) (ok_X12_ran hL  hx6) rfl rfl (Nat.le_of_ble_eq_true rfl) ⟨Nat.le_of_ble_eq_true rfl, Nat.le_of_ble_eq_true rfl⟩ ⟨Nat.le_of_ble_eq_true rfl, Nat.le_of_ble_eq_true rfl⟩ dX12_tellsIt_11 ?_
    refine r_aload_n dX12_tellsIt_14 rfl rfl ?_
    refine r_iload_n dX12_tellsIt_15 rfl rfl ?_
    obtain ⟨x7, hx7, hF⟩ := bnd hF
    refine c_virt_i (As := [.int p1]) mi_X12_plainTells kw_1440 ks_67 kw_1438 rfl (by decide) (ln_101 hL) (ok_X12_plainTells hL  hx7) rfl rfl (Nat.le_of_ble_eq_true rfl) ⟨Nat.le_of_ble_eq_true rfl, Nat.le_of_ble_eq_true rfl⟩ ⟨Nat.le_of_ble_eq_true rfl, Nat.le_of_ble_eq_true rfl⟩ dX12_tellsIt_16 ?_
    refine r_istore_n (ls' := [(2, .int x7.1), (1, .int p1), (0, .ref 101)]) dX12_tellsIt_19 rfl (by decide) rfl ?_
    refine r_iload_n dX12_tellsIt_20 rfl rfl ?_
    refine r_aload_n dX12_tellsIt_21 rfl rfl ?_
    refine r_aload_n dX12_tellsIt_22 rfl rfl ?_
    refine r_getI lk_X12_363 (ln_101 hL) dX12_tellsIt_23 ?_
    obtain ⟨x8, hx8, hF⟩ := bnd hF
    refine c_virt_i (As := [.int (x7.2 101 45)]) mi_X12_sharesIt kw_1428 ks_64 kw_1426 rfl (by decide) (ln_101 hL) (ok_X12_sharesIt hL  hx8) rfl rfl (Nat.le_of_ble_eq_true rfl) ⟨Nat.le_of_ble_eq_true rfl, Nat.le_of_ble_eq_true rfl⟩ ⟨Nat.le_of_ble_eq_true rfl, Nat.le_of_ble_eq_true rfl⟩ dX12_tellsIt_26 ?_
    refine r_iadd dX12_tellsIt_29 ?_
    obtain rfl := Option.some.inj hF
    exact r_ireturn rfl rfl dX12_tellsIt_30 (Nat.le_of_ble_eq_true rfl) (Nat.le_of_ble_eq_true rfl)
