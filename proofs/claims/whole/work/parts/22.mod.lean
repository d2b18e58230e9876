def F_X12_act (I : IM) (p1 : Int32) (p2 : Int32) (p3 : Int32) : Option (Int32 × IM) := (letb (up2 I 101 48 0) (fun I1 : IM => (if (F_X12_isShelf p1) = 0 then (if (F_X12_in p2 0 3) = 0 then (some (0, I1)) else (if (F_X12_in (-1) 0 5) = 0 then (some (0, I1)) else (letb (up2 I1 101 44 (-1)) (fun I6 : IM => (if inb p1 4 = true then (letb (up2 I6 101 45 (I6 119 p1.toNatClampNeg)) (fun I8 : IM => ((F_X12_its I8 (I8 101 45) 1).bind (fun x9 => (letb (up2 I8 101 46 x9) (fun I10 : IM => (letb (up2 I10 101 49 0) (fun I11 : IM => (if p2 = 0 then ((F_X12_fallsIt I11 p3).bind (fun x27 => (if (x27.2 101 49) = 0 then (some (x27.1, x27.2)) else (some ((-15), x27.2))))) else (if p2 = 1 then ((F_X12_turnsIt I11 p3).bind (fun x25 => (if (x25.2 101 49) = 0 then (some (x25.1, x25.2)) else (some ((-15), x25.2))))) else (if p2 = 2 then ((F_X12_sharesIt I11 p3).bind (fun x23 => (if (x23.2 101 49) = 0 then (some (x23.1, x23.2)) else (some ((-15), x23.2))))) else ((F_X12_tellsIt I11 p3).bind (fun x21 => (if (x21.2 101 49) = 0 then (some (x21.1, x21.2)) else (some ((-15), x21.2)))))))))))))))) else none))))) else ((F_X12_kindOn I1 p1).bind (fun x29 => (if (F_X12_in p2 0 3) = 0 then (some (0, I1)) else (if (F_X12_in x29 0 5) = 0 then (some (0, I1)) else (letb (up2 I1 101 44 x29) (fun I32 : IM => (if inb p1 4 = true then (letb (up2 I32 101 45 (I32 119 p1.toNatClampNeg)) (fun I34 : IM => ((F_X12_its I34 (I34 101 45) 1).bind (fun x35 => (letb (up2 I34 101 46 x35) (fun I36 : IM => (letb (up2 I36 101 49 0) (fun I37 : IM => (if p2 = 0 then ((F_X12_fallsIt I37 p3).bind (fun x53 => (if (x53.2 101 49) = 0 then (some (x53.1, x53.2)) else (some ((-15), x53.2))))) else (if p2 = 1 then ((F_X12_turnsIt I37 p3).bind (fun x51 => (if (x51.2 101 49) = 0 then (some (x51.1, x51.2)) else (some ((-15), x51.2))))) else (if p2 = 2 then ((F_X12_sharesIt I37 p3).bind (fun x49 => (if (x49.2 101 49) = 0 then (some (x49.1, x49.2)) else (some ((-15), x49.2))))) else ((F_X12_tellsIt I37 p3).bind (fun x47 => (if (x47.2 101 49) = 0 then (some (x47.1, x47.2)) else (some ((-15), x47.2)))))))))))))))) else none))))))))))
set_option maxHeartbeats 4000000 in
theorem ok_X12_act {E : GE} {T : TM} {I : IM} {J : JM} {P : PM} {p1 : Int32} {p2 : Int32} {p3 : Int32} {x : Int32 × IM} (hL : LOK T P) (hF : F_X12_act I p1 p2 p3 = some x) : Ctr E mX12_act 7 0 0 [.ref 101, .int p1, .int p2, .int p3] T I J P (some (.int x.1)) T x.2 J P := by
  unfold F_X12_act at hF
  refine ctr_intro rfl (by decide) (Nat.le_of_ble_eq_true rfl) ?_
  refine r_sub (ls' := [(3, .int p3), (2, .int p2), (1, .int p1), (0, .ref 101)]) [3, 2, 1, 0] rfl ?_
  refine r_aload_n dX12_act_0 rfl rfl ?_
  refine r_iconst (v := 0) dX12_act_1 (by decide) ?_
  refine r_putI lk_X12_357 (Or.inl rfl) (ln_101 hL) rfl rfl dX12_act_2 ?_
  refine r_letI hF (fun I1 hF => ?_)
  refine r_iload_n dX12_act_5 rfl rfl ?_
  refine c_static_i (As := [.int p1]) mi_X12_isShelf kw_1322 kw_1321 (ok_X12_isShelf hL  (p1 := p1)) rfl rfl (Nat.le_of_ble_eq_true rfl) ⟨Nat.le_of_ble_eq_true rfl, Nat.le_of_ble_eq_true rfl⟩ ⟨Nat.le_of_ble_eq_true rfl, Nat.le_of_ble_eq_true rfl⟩ dX12_act_6 ?_
  refine r_if_eq (tgt := 20) dX12_act_9 (by decide) (fun h3 => ?_) (fun h3 => ?_)
  · have hF := tw hF h3
    refine r_iconst (v := (-1)) dX12_act_20 (by decide) ?_
    refine r_istore (ls' := [(4, .int (-1)), (3, .int p3), (2, .int p2), (1, .int p1), (0, .ref 101)]) dX12_act_21 (by decide) rfl ?_
    refine r_iload_n dX12_act_23 rfl rfl ?_
    refine r_iconst (v := 0) dX12_act_24 (by decide) ?_
    refine r_iconst (v := 3) dX12_act_25 (by decide) ?_
    refine c_static_i (As := [.int p2, .int 0, .int 3]) mi_X12_in kw_1085 kw_1084 (ok_X12_in hL  (p1 := p2) (p2 := 0) (p3 := 3)) rfl rfl (Nat.le_of_ble_eq_true rfl) ⟨Nat.le_of_ble_eq_true rfl, Nat.le_of_ble_eq_true rfl⟩ ⟨Nat.le_of_ble_eq_true rfl, Nat.le_of_ble_eq_true rfl⟩ dX12_act_26 ?_
    refine r_if_eq (tgt := 42) dX12_act_29 (by decide) (fun h4 => ?_) (fun h4 => ?_)
    · have hF := tw hF h4
      refine r_iconst (v := 0) dX12_act_42 (by decide) ?_
      obtain rfl := Option.some.inj hF
      exact r_ireturn rfl rfl dX12_act_43 (Nat.le_of_ble_eq_true rfl) (Nat.le_of_ble_eq_true rfl)
    · have hF := fw hF h4
      refine r_iload dX12_act_32 rfl ?_
      refine r_iconst (v := 0) dX12_act_34 (by decide) ?_
      refine r_iconst (v := 5) dX12_act_35 (by decide) ?_
      refine c_static_i (As := [.int (-1), .int 0, .int 5]) mi_X12_in kw_1085 kw_1084 (ok_X12_in hL  (p1 := (-1)) (p2 := 0) (p3 := 5)) rfl rfl (Nat.le_of_ble_eq_true rfl) ⟨Nat.le_of_ble_eq_true rfl, Nat.le_of_ble_eq_true rfl⟩ ⟨Nat.le_of_ble_eq_true rfl, Nat.le_of_ble_eq_true rfl⟩ dX12_act_36 ?_
      refine r_if_ne (tgt := 44) dX12_act_39 (by decide) (fun h5 => ?_) (fun h5 => ?_)
      · have hF := fw hF h5
        refine r_aload_n dX12_act_44 rfl rfl ?_
        refine r_iload dX12_act_45 rfl ?_
        refine r_putI lk_X12_366 (Or.inl rfl) (ln_101 hL) rfl rfl dX12_act_47 ?_
        refine r_letI hF (fun I6 hF => ?_)
        refine r_aload_n dX12_act_50 rfl rfl ?_
        refine r_aload_n dX12_act_51 rfl rfl ?_
        refine r_getP lk_X12_66 (ln_101 hL) (pp_101_42 hL) dX12_act_52 ?_
        refine r_iload_n dX12_act_55 rfl rfl ?_
        obtain ⟨g7, hF⟩ := gd hF
        refine r_iald (ln_119 hL) (by rw [(nl_119 hL)]; exact g7) dX12_act_56 ?_
        refine r_putI lk_X12_363 (Or.inl rfl) (ln_101 hL) rfl rfl dX12_act_57 ?_
        refine r_letI hF (fun I8 hF => ?_)
        refine r_aload_n dX12_act_60 rfl rfl ?_
        refine r_aload_n dX12_act_61 rfl rfl ?_
        refine r_aload_n dX12_act_62 rfl rfl ?_
        refine r_getI lk_X12_363 (ln_101 hL) dX12_act_63 ?_
        refine r_iconst (v := 1) dX12_act_66 (by decide) ?_
        obtain ⟨x9, hx9, hF⟩ := bnd hF
        refine c_virt_i (As := [.int (I8 101 45), .int 1]) mi_X12_its kw_1177 ks_36 kw_1175 rfl (by decide) (ln_101 hL) (ok_X12_its hL  hx9) rfl rfl (Nat.le_of_ble_eq_true rfl) ⟨Nat.le_of_ble_eq_true rfl, Nat.le_of_ble_eq_true rfl⟩ ⟨Nat.le_of_ble_eq_true rfl, Nat.le_of_ble_eq_true rfl⟩ dX12_act_67 ?_
        refine r_putI lk_X12_378 (Or.inl rfl) (ln_101 hL) rfl rfl dX12_act_70 ?_
        refine r_letI hF (fun I10 hF => ?_)
        refine r_aload_n dX12_act_73 rfl rfl ?_
        refine r_iconst (v := 0) dX12_act_74 (by decide) ?_
        refine r_putI lk_X12_381 (Or.inl rfl) (ln_101 hL) rfl rfl dX12_act_75 ?_
        refine r_letI hF (fun I11 hF => ?_)
        refine r_iload_n dX12_act_78 rfl rfl ?_
        refine r_if_ne (tgt := 90) dX12_act_79 (by decide) (fun h15 => ?_) (fun h15 => ?_)
        · have hF := fw hF h15
          refine r_iload_n dX12_act_90 rfl rfl ?_
          refine r_iconst (v := 1) dX12_act_91 (by decide) ?_
          refine r_icmp_ne (tgt := 103) dX12_act_92 (by decide) (fun h18 => ?_) (fun h18 => ?_)
          · have hF := fw hF h18
            refine r_iload_n dX12_act_103 rfl rfl ?_
            refine r_iconst (v := 2) dX12_act_104 (by decide) ?_
            refine r_icmp_ne (tgt := 116) dX12_act_105 (by decide) (fun h20 => ?_) (fun h20 => ?_)
            · have hF := fw hF h20
              refine r_aload_n dX12_act_116 rfl rfl ?_
              refine r_iload_n dX12_act_117 rfl rfl ?_
              obtain ⟨x21, hx21, hF⟩ := bnd hF
              refine c_virt_i (As := [.int p3]) mi_X12_tellsIt kw_1436 ks_66 kw_1434 rfl (by decide) (ln_101 hL) (ok_X12_tellsIt hL  hx21) rfl rfl (Nat.le_of_ble_eq_true rfl) ⟨Nat.le_of_ble_eq_true rfl, Nat.le_of_ble_eq_true rfl⟩ ⟨Nat.le_of_ble_eq_true rfl, Nat.le_of_ble_eq_true rfl⟩ dX12_act_118 ?_
              refine r_istore (ls' := [(5, .int x21.1), (4, .int (-1)), (3, .int p3), (2, .int p2), (1, .int p1), (0, .ref 101)]) dX12_act_121 (by decide) rfl ?_
              refine r_aload_n dX12_act_123 rfl rfl ?_
              refine r_getI lk_X12_381 (ln_101 hL) dX12_act_124 ?_
              refine r_if_eq (tgt := 135) dX12_act_127 (by decide) (fun h22 => ?_) (fun h22 => ?_)
              · have hF := tw hF h22
                refine r_iload dX12_act_135 rfl ?_
                obtain rfl := Option.some.inj hF
                exact r_ireturn rfl rfl dX12_act_137 (Nat.le_of_ble_eq_true rfl) (Nat.le_of_ble_eq_true rfl)
              · have hF := fw hF h22
                refine r_bipush (v := (-15)) dX12_act_130 (by decide) ?_
                refine r_goto (tgt := 137) dX12_act_132 (by decide) ?_
                obtain rfl := Option.some.inj hF
                exact r_ireturn rfl rfl dX12_act_137 (Nat.le_of_ble_eq_true rfl) (Nat.le_of_ble_eq_true rfl)
            · have hF := tw hF h20
              refine r_aload_n dX12_act_108 rfl rfl ?_
              refine r_iload_n dX12_act_109 rfl rfl ?_
              obtain ⟨x23, hx23, hF⟩ := bnd hF
              refine c_virt_i (As := [.int p3]) mi_X12_sharesIt kw_1428 ks_64 kw_1426 rfl (by decide) (ln_101 hL) (ok_X12_sharesIt hL  hx23) rfl rfl (Nat.le_of_ble_eq_true rfl) ⟨Nat.le_of_ble_eq_true rfl, Nat.le_of_ble_eq_true rfl⟩ ⟨Nat.le_of_ble_eq_true rfl, Nat.le_of_ble_eq_true rfl⟩ dX12_act_110 ?_
              refine r_goto (tgt := 121) dX12_act_113 (by decide) ?_
              refine r_istore (ls' := [(5, .int x23.1), (4, .int (-1)), (3, .int p3), (2, .int p2), (1, .int p1), (0, .ref 101)]) dX12_act_121 (by decide) rfl ?_
              refine r_aload_n dX12_act_123 rfl rfl ?_
              refine r_getI lk_X12_381 (ln_101 hL) dX12_act_124 ?_
              refine r_if_eq (tgt := 135) dX12_act_127 (by decide) (fun h24 => ?_) (fun h24 => ?_)
              · have hF := tw hF h24
                refine r_iload dX12_act_135 rfl ?_
                obtain rfl := Option.some.inj hF
                exact r_ireturn rfl rfl dX12_act_137 (Nat.le_of_ble_eq_true rfl) (Nat.le_of_ble_eq_true rfl)
              · have hF := fw hF h24
                refine r_bipush (v := (-15)) dX12_act_130 (by decide) ?_
                refine r_goto (tgt := 137) dX12_act_132 (by decide) ?_
                obtain rfl := Option.some.inj hF
                exact r_ireturn rfl rfl dX12_act_137 (Nat.le_of_ble_eq_true rfl) (Nat.le_of_ble_eq_true rfl)
          · have hF := tw hF h18
            refine r_aload_n dX12_act_95 rfl rfl ?_
            refine r_iload_n dX12_act_96 rfl rfl ?_
            obtain ⟨x25, hx25, hF⟩ := bnd hF
            refine c_virt_i (As := [.int p3]) mi_X12_turnsIt kw_1420 ks_62 kw_1418 rfl (by decide) (ln_101 hL) (ok_X12_turnsIt hL  hx25) rfl rfl (Nat.le_of_ble_eq_true rfl) ⟨Nat.le_of_ble_eq_true rfl, Nat.le_of_ble_eq_true rfl⟩ ⟨Nat.le_of_ble_eq_true rfl, Nat.le_of_ble_eq_true rfl⟩ dX12_act_97 ?_
            refine r_goto (tgt := 121) dX12_act_100 (by decide) ?_
            refine r_istore (ls' := [(5, .int x25.1), (4, .int (-1)), (3, .int p3), (2, .int p2), (1, .int p1), (0, .ref 101)]) dX12_act_121 (by decide) rfl ?_
            refine r_aload_n dX12_act_123 rfl rfl ?_
            refine r_getI lk_X12_381 (ln_101 hL) dX12_act_124 ?_
            refine r_if_eq (tgt := 135) dX12_act_127 (by decide) (fun h26 => ?_) (fun h26 => ?_)
            · have hF := tw hF h26
              refine r_iload dX12_act_135 rfl ?_
              obtain rfl := Option.some.inj hF
              exact r_ireturn rfl rfl dX12_act_137 (Nat.le_of_ble_eq_true rfl) (Nat.le_of_ble_eq_true rfl)
            · have hF := fw hF h26
              refine r_bipush (v := (-15)) dX12_act_130 (by decide) ?_
              refine r_goto (tgt := 137) dX12_act_132 (by decide) ?_
              obtain rfl := Option.some.inj hF
              exact r_ireturn rfl rfl dX12_act_137 (Nat.le_of_ble_eq_true rfl) (Nat.le_of_ble_eq_true rfl)
        · have hF := tw hF h15
          refine r_aload_n dX12_act_82 rfl rfl ?_
          refine r_iload_n dX12_act_83 rfl rfl ?_
          obtain ⟨x27, hx27, hF⟩ := bnd hF
          refine c_virt_i (As := [.int p3]) mi_X12_fallsIt kw_1408 ks_59 kw_1406 rfl (by decide) (ln_101 hL) (ok_X12_fallsIt hL  hx27) rfl rfl (Nat.le_of_ble_eq_true rfl) ⟨Nat.le_of_ble_eq_true rfl, Nat.le_of_ble_eq_true rfl⟩ ⟨Nat.le_of_ble_eq_true rfl, Nat.le_of_ble_eq_true rfl⟩ dX12_act_84 ?_
          refine r_goto (tgt := 121) dX12_act_87 (by decide) ?_
          refine r_istore (ls' := [(5, .int x27.1), (4, .int (-1)), (3, .int p3), (2, .int p2), (1, .int p1), (0, .ref 101)]) dX12_act_121 (by decide) rfl ?_
          refine r_aload_n dX12_act_123 rfl rfl ?_
          refine r_getI lk_X12_381 (ln_101 hL) dX12_act_124 ?_
          refine r_if_eq (tgt := 135) dX12_act_127 (by decide) (fun h28 => ?_) (fun h28 => ?_)
          · have hF := tw hF h28
            refine r_iload dX12_act_135 rfl ?_
            obtain rfl := Option.some.inj hF
            exact r_ireturn rfl rfl dX12_act_137 (Nat.le_of_ble_eq_true rfl) (Nat.le_of_ble_eq_true rfl)
          · have hF := fw hF h28
            refine r_bipush (v := (-15)) dX12_act_130 (by decide) ?_
            refine r_goto (tgt := 137) dX12_act_132 (by decide) ?_
            obtain rfl := Option.some.inj hF
            exact r_ireturn rfl rfl dX12_act_137 (Nat.le_of_ble_eq_true rfl) (Nat.le_of_ble_eq_true rfl)
      · have hF := tw hF h5
        refine r_iconst (v := 0) dX12_act_42 (by decide) ?_
        obtain rfl := Option.some.inj hF
        exact r_ireturn rfl rfl dX12_act_43 (Nat.le_of_ble_eq_true rfl) (Nat.le_of_ble_eq_true rfl)
  · have hF := fw hF h3
    refine r_aload_n dX12_act_12 rfl rfl ?_
    refine r_iload_n dX12_act_13 rfl rfl ?_
    obtain ⟨x29, hx29, hF⟩ := bnd hF
    refine c_virt_i (As := [.int p1]) mi_X12_kindOn kw_1397 ks_58 kw_1395 rfl (by decide) (ln_101 hL) (ok_X12_kindOn hL  hx29) rfl rfl (Nat.le_of_ble_eq_true rfl) ⟨Nat.le_of_ble_eq_true rfl, Nat.le_of_ble_eq_true rfl⟩ ⟨Nat.le_of_ble_eq_true rfl, Nat.le_of_ble_eq_true rfl⟩ dX12_act_14 ?_
    refine r_goto (tgt := 21) dX12_act_17 (by decide) ?_
    refine r_istore (ls' := [(4, .int x29), (3, .int p3), (2, .int p2), (1, .int p1), (0, .ref 101)]) dX12_act_21 (by decide) rfl ?_
    refine r_iload_n dX12_act_23 rfl rfl ?_
    refine r_iconst (v := 0) dX12_act_24 (by decide) ?_
    refine r_iconst (v := 3) dX12_act_25 (by decide) ?_
    refine c_static_i (As := [.int p2, .int 0, .int 3]) mi_X12_in kw_1085 kw_1084 (ok_X12_in hL  (p1 := p2) (p2 := 0) (p3 := 3)) rfl rfl (Nat.le_of_ble_eq_true rfl) ⟨Nat.le_of_ble_eq_true rfl, Nat.le_of_ble_eq_true rfl⟩ ⟨Nat.le_of_ble_eq_true rfl, Nat.le_of_ble_eq_true rfl⟩ dX12_act_26 ?_
    refine r_if_eq (tgt := 42) dX12_act_29 (by decide) (fun h30 => ?_) (fun h30 => ?_)
    · have hF := tw hF h30
      refine r_iconst (v := 0) dX12_act_42 (by decide) ?_
      obtain rfl := Option.some.inj hF
      exact r_ireturn rfl rfl dX12_act_43 (Nat.le_of_ble_eq_true rfl) (Nat.le_of_ble_eq_true rfl)
    · have hF := fw hF h30
      refine r_iload dX12_act_32 rfl ?_
      refine r_iconst (v := 0) dX12_act_34 (by decide) ?_
      refine r_iconst (v := 5) dX12_act_35 (by decide) ?_
      refine c_static_i (As := [.int x29, .int 0, .int 5]) mi_X12_in kw_1085 kw_1084 (ok_X12_in hL  (p1 := x29) (p2 := 0) (p3 := 5)) rfl rfl (Nat.le_of_ble_eq_true rfl) ⟨Nat.le_of_ble_eq_true rfl, Nat.le_of_ble_eq_true rfl⟩ ⟨Nat.le_of_ble_eq_true rfl, Nat.le_of_ble_eq_true rfl⟩ dX12_act_36 ?_
      refine r_if_ne (tgt := 44) dX12_act_39 (by decide) (fun h31 => ?_) (fun h31 => ?_)
      · have hF := fw hF h31
        refine r_aload_n dX12_act_44 rfl rfl ?_
        refine r_iload dX12_act_45 rfl ?_
        refine r_putI lk_X12_366 (Or.inl rfl) (ln_101 hL) rfl rfl dX12_act_47 ?_
        refine r_letI hF (fun I32 hF => ?_)
        refine r_aload_n dX12_act_50 rfl rfl ?_
        refine r_aload_n dX12_act_51 rfl rfl ?_
        refine r_getP lk_X12_66 (ln_101 hL) (pp_101_42 hL) dX12_act_52 ?_
        refine r_iload_n dX12_act_55 rfl rfl ?_
        obtain ⟨g33, hF⟩ := gd hF
        refine r_iald (ln_119 hL) (by rw [(nl_119 hL)]; exact g33) dX12_act_56 ?_
        refine r_putI lk_X12_363 (Or.inl rfl) (ln_101 hL) rfl rfl dX12_act_57 ?_
        refine r_letI hF (fun I34 hF => ?_)
        refine r_aload_n dX12_act_60 rfl rfl ?_
        refine r_aload_n dX12_act_61 rfl rfl ?_
        refine r_aload_n dX12_act_62 rfl rfl ?_
        refine r_getI lk_X12_363 (ln_101 hL) dX12_act_63 ?_
        refine r_iconst (v := 1) dX12_act_66 (by decide) ?_
        obtain ⟨x35, hx35, hF⟩ := bnd hF
        refine c_virt_i (As := [.int (I34 101 45), .int 1]) mi_X12_its kw_1177 ks_36 kw_1175 rfl (by decide) (ln_101 hL) (ok_X12_its hL  hx35) rfl rfl (Nat.le_of_ble_eq_true rfl) ⟨Nat.le_of_ble_eq_true rfl, Nat.le_of_ble_eq_true rfl⟩ ⟨Nat.le_of_ble_eq_true rfl, Nat.le_of_ble_eq_true rfl⟩ dX12_act_67 ?_
        refine r_putI lk_X12_378 (Or.inl rfl) (ln_101 hL) rfl rfl dX12_act_70 ?_
        refine r_letI hF (fun I36 hF => ?_)
        refine r_aload_n dX12_act_73 rfl rfl ?_
        refine r_iconst (v := 0) dX12_act_74 (by decide) ?_
        refine r_putI lk_X12_381 (Or.inl rfl) (ln_101 hL) rfl rfl dX12_act_75 ?_
        refine r_letI hF (fun I37 hF => ?_)
        refine r_iload_n dX12_act_78 rfl rfl ?_
        refine r_if_ne (tgt := 90) dX12_act_79 (by decide) (fun h41 => ?_) (fun h41 => ?_)
        · have hF := fw hF h41
          refine r_iload_n dX12_act_90 rfl rfl ?_
          refine r_iconst (v := 1) dX12_act_91 (by decide) ?_
          refine r_icmp_ne (tgt := 103) dX12_act_92 (by decide) (fun h44 => ?_) (fun h44 => ?_)
          · have hF := fw hF h44
            refine r_iload_n dX12_act_103 rfl rfl ?_
            refine r_iconst (v := 2) dX12_act_104 (by decide) ?_
            refine r_icmp_ne (tgt := 116) dX12_act_105 (by decide) (fun h46 => ?_) (fun h46 => ?_)
            · have hF := fw hF h46
              refine r_aload_n dX12_act_116 rfl rfl ?_
              refine r_iload_n dX12_act_117 rfl rfl ?_
              obtain ⟨x47, hx47, hF⟩ := bnd hF
              refine c_virt_i (As := [.int p3]) mi_X12_tellsIt kw_1436 ks_66 kw_1434 rfl (by decide) (ln_101 hL) (ok_X12_tellsIt hL  hx47) rfl rfl (Nat.le_of_ble_eq_true rfl) ⟨Nat.le_of_ble_eq_true rfl, Nat.le_of_ble_eq_true rfl⟩ ⟨Nat.le_of_ble_eq_true rfl, Nat.le_of_ble_eq_true rfl⟩ dX12_act_118 ?_
              refine r_istore (ls' := [(5, .int x47.1), (4, .int x29), (3, .int p3), (2, .int p2), (1, .int p1), (0, .ref 101)]) dX12_act_121 (by decide) rfl ?_
              refine r_aload_n dX12_act_123 rfl rfl ?_
              refine r_getI lk_X12_381 (ln_101 hL) dX12_act_124 ?_
              refine r_if_eq (tgt := 135) dX12_act_127 (by decide) (fun h48 => ?_) (fun h48 => ?_)
              · have hF := tw hF h48
                refine r_iload dX12_act_135 rfl ?_
                obtain rfl := Option.some.inj hF
                exact r_ireturn rfl rfl dX12_act_137 (Nat.le_of_ble_eq_true rfl) (Nat.le_of_ble_eq_true rfl)
              · have hF := fw hF h48
                refine r_bipush (v := (-15)) dX12_act_130 (by decide) ?_
                refine r_goto (tgt := 137) dX12_act_132 (by decide) ?_
                obtain rfl := Option.some.inj hF
                exact r_ireturn rfl rfl dX12_act_137 (Nat.le_of_ble_eq_true rfl) (Nat.le_of_ble_eq_true rfl)
            · have hF := tw hF h46
              refine r_aload_n dX12_act_108 rfl rfl ?_
              refine r_iload_n dX12_act_109 rfl rfl ?_
              obtain ⟨x49, hx49, hF⟩ := bnd hF
              refine c_virt_i (As := [.int p3]) mi_X12_sharesIt kw_1428 ks_64 kw_1426 rfl (by decide) (ln_101 hL) (ok_X12_sharesIt hL  hx49) rfl rfl (Nat.le_of_ble_eq_true rfl) ⟨Nat.le_of_ble_eq_true rfl, Nat.le_of_ble_eq_true rfl⟩ ⟨Nat.le_of_ble_eq_true rfl, Nat.le_of_ble_eq_true rfl⟩ dX12_act_110 ?_
              refine r_goto (tgt := 121) dX12_act_113 (by decide) ?_
              refine r_istore (ls' := [(5, .int x49.1), (4, .int x29), (3, .int p3), (2, .int p2), (1, .int p1), (0, .ref 101)]) dX12_act_121 (by decide) rfl ?_
              refine r_aload_n dX12_act_123 rfl rfl ?_
              refine r_getI lk_X12_381 (ln_101 hL) dX12_act_124 ?_
              refine r_if_eq (tgt := 135) dX12_act_127 (by decide) (fun h50 => ?_) (fun h50 => ?_)
              · have hF := tw hF h50
                refine r_iload dX12_act_135 rfl ?_
                obtain rfl := Option.some.inj hF
                exact r_ireturn rfl rfl dX12_act_137 (Nat.le_of_ble_eq_true rfl) (Nat.le_of_ble_eq_true rfl)
              · have hF := fw hF h50
                refine r_bipush (v := (-15)) dX12_act_130 (by decide) ?_
                refine r_goto (tgt := 137) dX12_act_132 (by decide) ?_
                obtain rfl := Option.some.inj hF
                exact r_ireturn rfl rfl dX12_act_137 (Nat.le_of_ble_eq_true rfl) (Nat.le_of_ble_eq_true rfl)
          · have hF := tw hF h44
            refine r_aload_n dX12_act_95 rfl rfl ?_
            refine r_iload_n dX12_act_96 rfl rfl ?_
            obtain ⟨x51, hx51, hF⟩ := bnd hF
            refine c_virt_i (As := [.int p3]) mi_X12_turnsIt kw_1420 ks_62 kw_1418 rfl (by decide) (ln_101 hL) (ok_X12_turnsIt hL  hx51) rfl rfl (Nat.le_of_ble_eq_true rfl) ⟨Nat.le_of_ble_eq_true rfl, Nat.le_of_ble_eq_true rfl⟩ ⟨Nat.le_of_ble_eq_true rfl, Nat.le_of_ble_eq_true rfl⟩ dX12_act_97 ?_
            refine r_goto (tgt := 121) dX12_act_100 (by decide) ?_
            refine r_istore (ls' := [(5, .int x51.1), (4, .int x29), (3, .int p3), (2, .int p2), (1, .int p1), (0, .ref 101)]) dX12_act_121 (by decide) rfl ?_
            refine r_aload_n dX12_act_123 rfl rfl ?_
            refine r_getI lk_X12_381 (ln_101 hL) dX12_act_124 ?_
            refine r_if_eq (tgt := 135) dX12_act_127 (by decide) (fun h52 => ?_) (fun h52 => ?_)
            · have hF := tw hF h52
              refine r_iload dX12_act_135 rfl ?_
              obtain rfl := Option.some.inj hF
              exact r_ireturn rfl rfl dX12_act_137 (Nat.le_of_ble_eq_true rfl) (Nat.le_of_ble_eq_true rfl)
            · have hF := fw hF h52
              refine r_bipush (v := (-15)) dX12_act_130 (by decide) ?_
              refine r_goto (tgt := 137) dX12_act_132 (by decide) ?_
              obtain rfl := Option.some.inj hF
              exact r_ireturn rfl rfl dX12_act_137 (Nat.le_of_ble_eq_true rfl) (Nat.le_of_ble_eq_true rfl)
        · have hF := tw hF h41
          refine r_aload_n dX12_act_82 rfl rfl ?_
          refine r_iload_n dX12_act_83 rfl rfl ?_
          obtain ⟨x53, hx53, hF⟩ := bnd hF
          refine c_virt_i (As := [.int p3]) mi_X12_fallsIt kw_1408 ks_59 kw_1406 rfl (by decide) (ln_101 hL) (ok_X12_fallsIt hL  hx53) rfl rfl (Nat.le_of_ble_eq_true rfl) ⟨Nat.le_of_ble_eq_true rfl, Nat.le_of_ble_eq_true rfl⟩ ⟨Nat.le_of_ble_eq_true rfl, Nat.le_of_ble_eq_true rfl⟩ dX12_act_84 ?_
          refine r_goto (tgt := 121) dX12_act_87 (by decide) ?_
          refine r_istore (ls' := [(5, .int x53.1), (4, .int x29), (3, .int p3), (2, .int p2), (1, .int p1), (0, .ref 101)]) dX12_act_121 (by decide) rfl ?_
          refine r_aload_n dX12_act_123 rfl rfl ?_
          refine r_getI lk_X12_381 (ln_101 hL) dX12_act_124 ?_
          refine r_if_eq (tgt := 135) dX12_act_127 (by decide) (fun h54 => ?_) (fun h54 => ?_)
          · have hF := tw hF h54
            refine r_iload dX12_act_135 rfl ?_
            obtain rfl := Option.some.inj hF
            exact r_ireturn rfl rfl dX12_act_137 (Nat.le_of_ble_eq_true rfl) (Nat.le_of_ble_eq_true rfl)
          · have hF := fw hF h54
            refine r_bipush (v := (-15)) dX12_act_130 (by decide) ?_
            refine r_goto (tgt := 137) dX12_act_132 (by decide) ?_
            obtain rfl := Option.some.inj hF
            exact r_ireturn rfl rfl dX12_act_137 (Nat.le_of_ble_eq_true rfl) (Nat.le_of_ble_eq_true rfl)
      · have hF := tw hF h31
        refine r_iconst (v := 0) dX12_act_42 (by decide) ?_
        obtain rfl := Option.some.inj hF
        exact r_ireturn rfl rfl dX12_act_43 (Nat.le_of_ble_eq_true rfl) (Nat.le_of_ble_eq_true rfl)
def F_X12_trace (I : IM) (p1 : Int32) : Option (Int32) := (if (F_X12_in p1 0 ((I 101 48) - 1)) = 0 then (some (-3)) else (if inb p1 30 = true then (some (I 121 p1.toNatClampNeg)) else none))
set_option maxHeartbeats 4000000 in
theorem ok_X12_trace {E : GE} {T : TM} {I : IM} {J : JM} {P : PM} {p1 : Int32} {x : Int32} (hL : LOK T P) (hF : F_X12_trace I p1 = some x) : Ctr E mX12_trace 1 0 0 [.ref 101, .int p1] T I J P (some (.int x)) T I J P := by
  unfold F_X12_trace at hF
  refine ctr_intro rfl (by decide) (Nat.le_of_ble_eq_true rfl) ?_
  refine r_sub (ls' := [(1, .int p1), (0, .ref 101)]) [1, 0] rfl ?_
  refine r_iload_n dX12_trace_0 rfl rfl ?_
  refine r_iconst (v := 0) dX12_trace_1 (by decide) ?_
  refine r_aload_n dX12_trace_2 rfl rfl ?_
  refine r_getI lk_X12_357 (ln_101 hL) dX12_trace_3 ?_
  refine r_iconst (v := 1) dX12_trace_6 (by decide) ?_
  refine r_isub dX12_trace_7 ?_
  refine c_static_i (As := [.int p1, .int 0, .int ((I 101 48) - 1)]) mi_X12_in kw_1085 kw_1084 (ok_X12_in hL  (p1 := p1) (p2 := 0) (p3 := ((I 101 48) - 1))) rfl rfl (Nat.le_of_ble_eq_true rfl) ⟨Nat.le_of_ble_eq_true rfl, Nat.le_of_ble_eq_true rfl⟩ ⟨Nat.le_of_ble_eq_true rfl, Nat.le_of_ble_eq_true rfl⟩ dX12_trace_8 ?_
  refine r_if_eq (tgt := 23) dX12_trace_11 (by decide) (fun h1 => ?_) (fun h1 => ?_)
  · have hF := tw hF h1
    refine r_bipush (v := (-3)) dX12_trace_23 (by decide) ?_
    obtain rfl := Option.some.inj hF
    exact r_ireturn rfl rfl dX12_trace_25 (Nat.le_of_ble_eq_true rfl) (Nat.le_of_ble_eq_true rfl)
  · have hF := fw hF h1
    refine r_aload_n dX12_trace_14 rfl rfl ?_
    refine r_getP lk_X12_72 (ln_101 hL) (pp_101_47 hL) dX12_trace_15 ?_
    refine r_iload_n dX12_trace_18 rfl rfl ?_
    obtain ⟨g2, hF⟩ := gd hF
    refine r_iald (ln_121 hL) (by rw [(nl_121 hL)]; exact g2) dX12_trace_19 ?_
    refine r_goto (tgt := 25) dX12_trace_20 (by decide) ?_
    obtain rfl := Option.some.inj hF
    exact r_ireturn rfl rfl dX12_trace_25 (Nat.le_of_ble_eq_true rfl) (Nat.le_of_ble_eq_true rfl)
def F_X12_many (N : Nat) (I : IM) (p1 : Int32) : Option (Int32) := (if p1 = 0 then (some (I 101 0)) else (if p1 = 1 then (some (I 101 36)) else (if p1 = 2 then (some (I 101 8)) else (if p1 = 3 then (some (I 101 48)) else (if p1 = 4 then ((F_X12_handMany N I).bind (fun x6 => (some x6))) else (some (-1)))))))
set_option maxHeartbeats 4000000 in
theorem ok_X12_many {E : GE} {T : TM} {I : IM} {J : JM} {P : PM} {p1 : Int32} {N : Nat} {x : Int32} (hL : LOK T P) (hF : F_X12_many N I p1 = some x) : Ctr E mX12_many 1 0 0 [.ref 101, .int p1] T I J P (some (.int x)) T I J P := by
  unfold F_X12_many at hF
  refine ctr_intro rfl (by decide) (Nat.le_of_ble_eq_true rfl) ?_
  refine r_sub (ls' := [(1, .int p1), (0, .ref 101)]) [1, 0] rfl ?_
  refine r_iload_n dX12_many_0 rfl rfl ?_
  by_cases h1 : p1 = 0
  · have hF := tw hF h1
    refine r_tableIn (off := 35) (tgt := 36) dX12_many_1 (by rw [h1]; decide) (by rw [h1]; decide) (by rw [h1]; decide) (by decide) ?_
    refine r_aload_n dX12_many_36 rfl rfl ?_
    refine r_getI lk_X12_81 (ln_101 hL) dX12_many_37 ?_
    obtain rfl := Option.some.inj hF
    exact r_ireturn rfl rfl dX12_many_40 (Nat.le_of_ble_eq_true rfl) (Nat.le_of_ble_eq_true rfl)
  · have hF := fw hF h1
    by_cases h2 : p1 = 1
    · have hF := tw hF h2
      refine r_tableIn (off := 40) (tgt := 41) dX12_many_1 (by rw [h2]; decide) (by rw [h2]; decide) (by rw [h2]; decide) (by decide) ?_
      refine r_aload_n dX12_many_41 rfl rfl ?_
      refine r_getI lk_X12_198 (ln_101 hL) dX12_many_42 ?_
      obtain rfl := Option.some.inj hF
      exact r_ireturn rfl rfl dX12_many_45 (Nat.le_of_ble_eq_true rfl) (Nat.le_of_ble_eq_true rfl)
    · have hF := fw hF h2
      by_cases h3 : p1 = 2
      · have hF := tw hF h3
        refine r_tableIn (off := 45) (tgt := 46) dX12_many_1 (by rw [h3]; decide) (by rw [h3]; decide) (by rw [h3]; decide) (by decide) ?_
        refine r_aload_n dX12_many_46 rfl rfl ?_
        refine r_getI lk_X12_88 (ln_101 hL) dX12_many_47 ?_
        obtain rfl := Option.some.inj hF
        exact r_ireturn rfl rfl dX12_many_50 (Nat.le_of_ble_eq_true rfl) (Nat.le_of_ble_eq_true rfl)
      · have hF := fw hF h3
        by_cases h4 : p1 = 3
        · have hF := tw hF h4
          refine r_tableIn (off := 50) (tgt := 51) dX12_many_1 (by rw [h4]; decide) (by rw [h4]; decide) (by rw [h4]; decide) (by decide) ?_
          refine r_aload_n dX12_many_51 rfl rfl ?_
          refine r_getI lk_X12_357 (ln_101 hL) dX12_many_52 ?_
          obtain rfl := Option.some.inj hF
          exact r_ireturn rfl rfl dX12_many_55 (Nat.le_of_ble_eq_true rfl) (Nat.le_of_ble_eq_true rfl)
        · have hF := fw hF h4
          by_cases h5 : p1 = 4
          · have hF := tw hF h5
            refine r_tableIn (off := 55) (tgt := 56) dX12_many_1 (by rw [h5]; decide) (by rw [h5]; decide) (by rw [h5]; decide) (by decide) ?_
            refine r_aload_n dX12_many_56 rfl rfl ?_
            obtain ⟨x6, hx6, hF⟩ := bnd hF
            refine c_virt_i (As := []) mi_X12_handMany kw_1192 ks_37 kw_1190 rfl (by decide) (ln_101 hL) (ok_X12_handMany hL  hx6) rfl rfl (Nat.le_of_ble_eq_true rfl) ⟨Nat.le_of_ble_eq_true rfl, Nat.le_of_ble_eq_true rfl⟩ ⟨Nat.le_of_ble_eq_true rfl, Nat.le_of_ble_eq_true rfl⟩ dX12_many_57 ?_
            obtain rfl := Option.some.inj hF
            exact r_ireturn rfl rfl dX12_many_60 (Nat.le_of_ble_eq_true rfl) (Nat.le_of_ble_eq_true rfl)
          · have hF := fw hF h5
            have eh1 := nei 0 (by decide) h1
            have eh2 := nei 1 (by decide) h2
            have eh3 := nei 2 (by decide) h3
            have eh4 := nei 3 (by decide) h4
            have eh5 := nei 4 (by decide) h5
            refine r_tableOut (tgt := 61) dX12_many_1 (by omega) (by decide) ?_
            refine r_iconst (v := (-1)) dX12_many_61 (by decide) ?_
            obtain rfl := Option.some.inj hF
            exact r_ireturn rfl rfl dX12_many_62 (Nat.le_of_ble_eq_true rfl) (Nat.le_of_ble_eq_true rfl)
def G_X12_move_3 (N : Nat) (b1 : Nat) (lb1 : Nat) (u2 : Int32) (u3 : Int32) : Nat → Int32 → IM → Option (IM)
  | 0, _, _ => none
  | n + 1, u4, Iv => (if u2 ≤ u4 then (some Iv) else (if u3 = 0 then (if inb (Iv 101 52) 60 = true then (if inb u4 lb1 = true then (letb (up2 Iv b1 u4.toNatClampNeg (Iv 122 (Iv 101 52).toNatClampNeg)) (fun I7 : IM => (letb (up2 I7 101 52 ((I7 101 52) + 1)) (fun I8 : IM => (G_X12_move_3 N b1 lb1 u2 u3 n (u4 + 1) I8))))) else none) else none) else (if inb u4 lb1 = true then (if inb (Iv 101 52) 60 = true then (letb (up2 Iv 122 (Iv 101 52).toNatClampNeg (Iv b1 u4.toNatClampNeg)) (fun I11 : IM => (letb (up2 I11 101 52 ((I11 101 52) + 1)) (fun I12 : IM => (G_X12_move_3 N b1 lb1 u2 u3 n (u4 + 1) I12))))) else none) else none)))
set_option maxHeartbeats 4000000 in
theorem okG_X12_move_3 {E : GE} {T : TM} {J : JM} {P : PM} {b1 : Nat} {lb1 : Nat} {N : Nat} {u2 : Int32} {u3 : Int32} {x : IM} (hL : LOK T P) (hb1 : IS T b1 13) (nb1 : T.2.2 b1 = lb1) : ∀ (n : Nat) (u4 : Int32) (Iv : IM), G_X12_move_3 N b1 lb1 u2 u3 n u4 Iv = some x → WW E mX12_move (RM 0 0 0) (ZM E 0 0 none T x J P) 0 0 T Iv J P 3 [(0, .ref 101), (1, .ref b1), (2, .int u2), (3, .int u3), (4, .int u4)] [] := by
  intro n
  induction n with
  | zero =>
    intro u4 Iv hF
    cases hF
  | succ n ih =>
    intro u4 Iv hF
    rw [G_X12_move_3] at hF
    refine r_iload dX12_move_3 rfl ?_
    refine r_iload_n dX12_move_5 rfl rfl ?_
    refine r_icmp_ge (tgt := 58) dX12_move_6 (by decide) (fun h2 => ?_) (fun h2 => ?_)
    · have hF := tw hF h2
      obtain rfl := Option.some.inj hF
      exact r_return rfl dX12_move_58 (Nat.le_of_ble_eq_true rfl) (Nat.le_of_ble_eq_true rfl)
    · have hF := fw hF h2
      refine r_iload_n dX12_move_9 rfl rfl ?_
      refine r_if_eq (tgt := 29) dX12_move_10 (by decide) (fun h4 => ?_) (fun h4 => ?_)
      · have hF := tw hF h4
        refine r_aload_n dX12_move_29 rfl rfl ?_
        refine r_iload dX12_move_30 rfl ?_
        refine r_aload_n dX12_move_32 rfl rfl ?_
        refine r_getP lk_X12_75 (ln_101 hL) (pp_101_51 hL) dX12_move_33 ?_
        refine r_aload_n dX12_move_36 rfl rfl ?_
        refine r_getI lk_X12_399 (ln_101 hL) dX12_move_37 ?_
        obtain ⟨g5, hF⟩ := gd hF
        refine r_iald (ln_122 hL) (by rw [(nl_122 hL)]; exact g5) dX12_move_40 ?_
        obtain ⟨g6, hF⟩ := gd hF
        refine r_iast hb1 (by rw [nb1]; exact g6) dX12_move_41 ?_
        refine r_letI hF (fun I7 hF => ?_)
        refine r_aload_n dX12_move_42 rfl rfl ?_
        refine r_dup dX12_move_43 rfl ?_
        refine r_getI lk_X12_399 (ln_101 hL) dX12_move_44 ?_
        refine r_iconst (v := 1) dX12_move_47 (by decide) ?_
        refine r_iadd dX12_move_48 ?_
        refine r_putI lk_X12_399 (Or.inl rfl) (ln_101 hL) rfl rfl dX12_move_49 ?_
        refine r_letI hF (fun I8 hF => ?_)
        refine r_iinc (v := (u4 + 1)) (ls' := [(4, .int (u4 + 1)), (0, .ref 101), (1, .ref b1), (2, .int u2), (3, .int u3)]) dX12_move_52 rfl rfl (by decide) rfl ?_
        refine r_goto (tgt := 3) dX12_move_55 (by decide) ?_
        refine r_sub (ls' := [(0, .ref 101), (1, .ref b1), (2, .int u2), (3, .int u3), (4, .int (u4 + 1))]) [1, 2, 3, 4, 0] rfl ?_
        exact ih (u4 + 1) I8 hF
      · have hF := fw hF h4
        refine r_aload_n dX12_move_13 rfl rfl ?_
        refine r_getP lk_X12_75 (ln_101 hL) (pp_101_51 hL) dX12_move_14 ?_
        refine r_aload_n dX12_move_17 rfl rfl ?_
        refine r_getI lk_X12_399 (ln_101 hL) dX12_move_18 ?_
        refine r_aload_n dX12_move_21 rfl rfl ?_
        refine r_iload dX12_move_22 rfl ?_
        obtain ⟨g9, hF⟩ := gd hF
        refine r_iald hb1 (by rw [nb1]; exact g9) dX12_move_24 ?_
        obtain ⟨g10, hF⟩ := gd hF
        refine r_iast (ln_122 hL) (by rw [(nl_122 hL)]; exact g10) dX12_move_25 ?_
        refine r_letI hF (fun I11 hF => ?_)
        refine r_goto (tgt := 42) dX12_move_26 (by decide) ?_
        refine r_aload_n dX12_move_42 rfl rfl ?_
        refine r_dup dX12_move_43 rfl ?_
        refine r_getI lk_X12_399 (ln_101 hL) dX12_move_44 ?_
        refine r_iconst (v := 1) dX12_move_47 (by decide) ?_
        refine r_iadd dX12_move_48 ?_
        refine r_putI lk_X12_399 (Or.inl rfl) (ln_101 hL) rfl rfl dX12_move_49 ?_
        refine r_letI hF (fun I12 hF => ?_)
        refine r_iinc (v := (u4 + 1)) (ls' := [(4, .int (u4 + 1)), (0, .ref 101), (1, .ref b1), (2, .int u2), (3, .int u3)]) dX12_move_52 rfl rfl (by decide) rfl ?_
        refine r_goto (tgt := 3) dX12_move_55 (by decide) ?_
        refine r_sub (ls' := [(0, .ref 101), (1, .ref b1), (2, .int u2), (3, .int u3), (4, .int (u4 + 1))]) [1, 2, 3, 4, 0] rfl ?_
        exact ih (u4 + 1) I12 hF
def F_X12_move (N : Nat) (I : IM) (b1 : Nat) (lb1 : Nat) (p2 : Int32) (p3 : Int32) : Option (IM) := (G_X12_move_3 N b1 lb1 p2 p3 N 0 I)
set_option maxHeartbeats 4000000 in
theorem ok_X12_move {E : GE} {T : TM} {I : IM} {J : JM} {P : PM} {b1 : Nat} {lb1 : Nat} {p2 : Int32} {p3 : Int32} {N : Nat} {x : IM} (hL : LOK T P) (hb1 : IS T b1 13) (nb1 : T.2.2 b1 = lb1) (hF : F_X12_move N I b1 lb1 p2 p3 = some x) : Ctr E mX12_move 0 0 0 [.ref 101, .ref b1, .int p2, .int p3] T I J P none T x J P := by
  unfold F_X12_move at hF
  refine ctr_intro rfl (by decide) (Nat.le_of_ble_eq_true rfl) ?_
  refine r_sub (ls' := [(3, .int p3), (2, .int p2), (1, .ref b1), (0, .ref 101)]) [3, 2, 1, 0] rfl ?_
  refine r_iconst (v := 0) dX12_move_0 (by decide) ?_
  refine r_istore (ls' := [(4, .int 0), (3, .int p3), (2, .int p2), (1, .ref b1), (0, .ref 101)]) dX12_move_1 (by decide) rfl ?_
  refine r_sub (ls' := [(0, .ref 101), (1, .ref b1), (2, .int p2), (3, .int p3), (4, .int 0)]) [4, 3, 2, 1, 0] rfl ?_
  exact okG_X12_move_3 hL hb1 nb1  N 0 I hF
def F_X12_moveAll (N : Nat) (I : IM) (p1 : Int32) : Option (IM) := (letb (up2 I 101 52 0) (fun I1 : IM => (letb (up2 I1 123 0 (I1 101 0)) (fun I2 : IM => (letb (up2 I2 123 1 (I2 101 5)) (fun I3 : IM => ((F_X12_move N I3 123 2 2 p1).bind (fun x4 => ((F_X12_move N x4 102 24 24 p1).bind (fun x5 => ((F_X12_move N x5 103 6 6 p1).bind (fun x6 => ((F_X12_move N x6 104 5 5 p1).bind (fun x7 => ((F_X12_move N x7 106 8 8 p1).bind (fun x8 => (some x8)))))))))))))))))
set_option maxHeartbeats 4000000 in
theorem ok_X12_moveAll {E : GE} {T : TM} {I : IM} {J : JM} {P : PM} {p1 : Int32} {N : Nat} {x : IM} (hL : LOK T P) (hF : F_X12_moveAll N I p1 = some x) : Ctr E mX12_moveAll 1 0 0 [.ref 101, .int p1] T I J P none T x J P := by
  unfold F_X12_moveAll at hF
  refine ctr_intro rfl (by decide) (Nat.le_of_ble_eq_true rfl) ?_
  refine r_sub (ls' := [(1, .int p1), (0, .ref 101)]) [1, 0] rfl ?_
  refine r_aload_n dX12_moveAll_0 rfl rfl ?_
  refine r_iconst (v := 0) dX12_moveAll_1 (by decide) ?_
  refine r_putI lk_X12_399 (Or.inl rfl) (ln_101 hL) rfl rfl dX12_moveAll_2 ?_
  refine r_letI hF (fun I1 hF => ?_)
  refine r_aload_n dX12_moveAll_5 rfl rfl ?_
  refine r_getP lk_X12_78 (ln_101 hL) (pp_101_53 hL) dX12_moveAll_6 ?_
  refine r_iconst (v := 0) dX12_moveAll_9 (by decide) ?_
  refine r_aload_n dX12_moveAll_10 rfl rfl ?_
  refine r_getI lk_X12_81 (ln_101 hL) dX12_moveAll_11 ?_
  refine r_iast (ln_123 hL) (by rw [(nl_123 hL)]; decide) dX12_moveAll_14 ?_
  refine r_letI hF (fun I2 hF => ?_)
  refine r_aload_n dX12_moveAll_15 rfl rfl ?_
  refine r_getP lk_X12_78 (ln_101 hL) (pp_101_53 hL) dX12_moveAll_16 ?_
  refine r_iconst (v := 1) dX12_moveAll_19 (by decide) ?_
  refine r_aload_n dX12_moveAll_20 rfl rfl ?_
  refine r_getI lk_X12_22 (ln_101 hL) dX12_moveAll_21 ?_
  refine r_iast (ln_123 hL) (by rw [(nl_123 hL)]; decide) dX12_moveAll_24 ?_
  refine r_letI hF (fun I3 hF => ?_)
  refine r_aload_n dX12_moveAll_25 rfl rfl ?_
  refine r_aload_n dX12_moveAll_26 rfl rfl ?_
  refine r_getP lk_X12_78 (ln_101 hL) (pp_101_53 hL) dX12_moveAll_27 ?_
  refine r_iconst (v := 2) dX12_moveAll_30 (by decide) ?_
  refine r_iload_n dX12_moveAll_31 rfl rfl ?_
  obtain ⟨x4, hx4, hF⟩ := bnd hF
  refine c_virt_v (As := [.ref 123, .int 2, .int p1]) mi_X12_move kw_1460 ks_69 kw_1458 rfl (by decide) (ln_101 hL) (ok_X12_move hL (ln_123 hL) (nl_123 hL) hx4) rfl rfl (Nat.le_of_ble_eq_true rfl) ⟨Nat.le_of_ble_eq_true rfl, Nat.le_of_ble_eq_true rfl⟩ ⟨Nat.le_of_ble_eq_true rfl, Nat.le_of_ble_eq_true rfl⟩ dX12_moveAll_32 ?_
  refine r_aload_n dX12_moveAll_35 rfl rfl ?_
  refine r_aload_n dX12_moveAll_36 rfl rfl ?_
  refine r_getP lk_X12_7 (ln_101 hL) (pp_101_1 hL) dX12_moveAll_37 ?_
  refine r_bipush (v := 24) dX12_moveAll_40 (by decide) ?_
  refine r_iload_n dX12_moveAll_42 rfl rfl ?_
  obtain ⟨x5, hx5, hF⟩ := bnd hF
  refine c_virt_v (As := [.ref 102, .int 24, .int p1]) mi_X12_move kw_1460 ks_69 kw_1458 rfl (by decide) (ln_101 hL) (ok_X12_move hL (ln_102 hL) (nl_102 hL) hx5) rfl rfl (Nat.le_of_ble_eq_true rfl) ⟨Nat.le_of_ble_eq_true rfl, Nat.le_of_ble_eq_true rfl⟩ ⟨Nat.le_of_ble_eq_true rfl, Nat.le_of_ble_eq_true rfl⟩ dX12_moveAll_43 ?_
  refine r_aload_n dX12_moveAll_46 rfl rfl ?_
  refine r_aload_n dX12_moveAll_47 rfl rfl ?_
  refine r_getP lk_X12_13 (ln_101 hL) (pp_101_2 hL) dX12_moveAll_48 ?_
  refine r_bipush (v := 6) dX12_moveAll_51 (by decide) ?_
  refine r_iload_n dX12_moveAll_53 rfl rfl ?_
  obtain ⟨x6, hx6, hF⟩ := bnd hF
  refine c_virt_v (As := [.ref 103, .int 6, .int p1]) mi_X12_move kw_1460 ks_69 kw_1458 rfl (by decide) (ln_101 hL) (ok_X12_move hL (ln_103 hL) (nl_103 hL) hx6) rfl rfl (Nat.le_of_ble_eq_true rfl) ⟨Nat.le_of_ble_eq_true rfl, Nat.le_of_ble_eq_true rfl⟩ ⟨Nat.le_of_ble_eq_true rfl, Nat.le_of_ble_eq_true rfl⟩ dX12_moveAll_54 ?_
  refine r_aload_n dX12_moveAll_57 rfl rfl ?_
  refine r_aload_n dX12_moveAll_58 rfl rfl ?_
  refine r_getP lk_X12_16 (ln_101 hL) (pp_101_3 hL) dX12_moveAll_59 ?_
  refine r_iconst (v := 5) dX12_moveAll_62 (by decide) ?_
  refine r_iload_n dX12_moveAll_63 rfl rfl ?_
  obtain ⟨x7, hx7, hF⟩ := bnd hF
  refine c_virt_v (As := [.ref 104, .int 5, .int p1]) mi_X12_move kw_1460 ks_69 kw_1458 rfl (by decide) (ln_101 hL) (ok_X12_move hL (ln_104 hL) (nl_104 hL) hx7) rfl rfl (Nat.le_of_ble_eq_true rfl) ⟨Nat.le_of_ble_eq_true rfl, Nat.le_of_ble_eq_true rfl⟩ ⟨Nat.le_of_ble_eq_true rfl, Nat.le_of_ble_eq_true rfl⟩ dX12_moveAll_64 ?_
  refine r_aload_n dX12_moveAll_67 rfl rfl ?_
  refine r_aload_n dX12_moveAll_68 rfl rfl ?_
  refine r_getP lk_X12_26 (ln_101 hL) (pp_101_6 hL) dX12_moveAll_69 ?_
  refine r_bipush (v := 8) dX12_moveAll_72 (by decide) ?_
  refine r_iload_n dX12_moveAll_74 rfl rfl ?_
  obtain ⟨x8, hx8, hF⟩ := bnd hF
  refine c_virt_v (As := [.ref 106, .int 8, .int p1]) mi_X12_move kw_1460 ks_69 kw_1458 rfl (by decide) (ln_101 hL) (ok_X12_move hL (ln_106 hL) (nl_106 hL) hx8) rfl rfl (Nat.le_of_ble_eq_true rfl) ⟨Nat.le_of_ble_eq_true rfl, Nat.le_of_ble_eq_true rfl⟩ ⟨Nat.le_of_ble_eq_true rfl, Nat.le_of_ble_eq_true rfl⟩ dX12_moveAll_75 ?_
  obtain rfl := Option.some.inj hF
  exact r_return rfl dX12_moveAll_78 (Nat.le_of_ble_eq_true rfl) (Nat.le_of_ble_eq_true rfl)
def F_X12_keep (N : Nat) (I : IM) : Option (Int32 × IM) := ((F_X12_moveAll N I 1).bind (fun x1 => (letb (up2 x1 101 50 1) (fun I2 : IM => (some (1, I2))))))
set_option maxHeartbeats 4000000 in
theorem ok_X12_keep {E : GE} {T : TM} {I : IM} {J : JM} {P : PM} {N : Nat} {x : Int32 × IM} (hL : LOK T P) (hF : F_X12_keep N I = some x) : Ctr E mX12_keep 2 0 0 [.ref 101] T I J P (some (.int x.1)) T x.2 J P := by
  unfold F_X12_keep at hF
  refine ctr_intro rfl (by decide) (Nat.le_of_ble_eq_true rfl) ?_
  refine r_sub (ls' := [(0, .ref 101)]) [0] rfl ?_
  refine r_aload_n dX12_keep_0 rfl rfl ?_
  refine r_iconst (v := 1) dX12_keep_1 (by decide) ?_
  obtain ⟨x1, hx1, hF⟩ := bnd hF
  refine c_virt_v (As := [.int 1]) mi_X12_moveAll kw_1456 ks_68 kw_1454 rfl (by decide) (ln_101 hL) (ok_X12_moveAll hL  hx1) rfl rfl (Nat.le_of_ble_eq_true rfl) ⟨Nat.le_of_ble_eq_true rfl, Nat.le_of_ble_eq_true rfl⟩ ⟨Nat.le_of_ble_eq_true rfl, Nat.le_of_ble_eq_true rfl⟩ dX12_keep_2 ?_
  refine r_aload_n dX12_keep_5 rfl rfl ?_
  refine r_iconst (v := 1) dX12_keep_6 (by decide) ?_
  refine r_putI lk_X12_410 (Or.inl rfl) (ln_101 hL) rfl rfl dX12_keep_7 ?_
  refine r_letI hF (fun I2 hF => ?_)
  refine r_iconst (v := 1) dX12_keep_10 (by decide) ?_
  obtain rfl := Option.some.inj hF
  exact r_ireturn rfl rfl dX12_keep_11 (Nat.le_of_ble_eq_true rfl) (Nat.le_of_ble_eq_true rfl)
def F_X12_again (N : Nat) (I : IM) : Option (Int32 × IM) := (if (I 101 50) = 0 then (some ((-3), I)) else ((F_X12_moveAll N I 0).bind (fun x2 => (letb (up2 x2 101 0 (x2 123 0)) (fun I3 : IM => (letb (up2 I3 101 5 (I3 123 1)) (fun I4 : IM => (some ((I4 101 0), I4)))))))))
set_option maxHeartbeats 4000000 in
theorem ok_X12_again {E : GE} {T : TM} {I : IM} {J : JM} {P : PM} {N : Nat} {x : Int32 × IM} (hL : LOK T P) (hF : F_X12_again N I = some x) : Ctr E mX12_again 2 0 0 [.ref 101] T I J P (some (.int x.1)) T x.2 J P := by
  unfold F_X12_again at hF
  refine ctr_intro rfl (by decide) (Nat.le_of_ble_eq_true rfl) ?_
  refine r_sub (ls' := [(0, .ref 101)]) [0] rfl ?_
  refine r_aload_n dX12_again_0 rfl rfl ?_
  refine r_getI lk_X12_410 (ln_101 hL) dX12_again_1 ?_
  refine r_if_ne (tgt := 10) dX12_again_4 (by decide) (fun h1 => ?_) (fun h1 => ?_)
  · have hF := fw hF h1
    refine r_aload_n dX12_again_10 rfl rfl ?_
    refine r_iconst (v := 0) dX12_again_11 (by decide) ?_
    obtain ⟨x2, hx2, hF⟩ := bnd hF
    refine c_virt_v (As := [.int 0]) mi_X12_moveAll kw_1456 ks_68 kw_1454 rfl (by decide) (ln_101 hL) (ok_X12_moveAll hL  hx2) rfl rfl (Nat.le_of_ble_eq_true rfl) ⟨Nat.le_of_ble_eq_true rfl, Nat.le_of_ble_eq_true rfl⟩ ⟨Nat.le_of_ble_eq_true rfl, Nat.le_of_ble_eq_true rfl⟩ dX12_again_12 ?_
    refine r_aload_n dX12_again_15 rfl rfl ?_
    refine r_aload_n dX12_again_16 rfl rfl ?_
    refine r_getP lk_X12_78 (ln_101 hL) (pp_101_53 hL) dX12_again_17 ?_
    refine r_iconst (v := 0) dX12_again_20 (by decide) ?_
    refine r_iald (ln_123 hL) (by rw [(nl_123 hL)]; decide) dX12_again_21 ?_
    refine r_putI lk_X12_81 (Or.inl rfl) (ln_101 hL) rfl rfl dX12_again_22 ?_
    refine r_letI hF (fun I3 hF => ?_)
    refine r_aload_n dX12_again_25 rfl rfl ?_
    refine r_aload_n dX12_again_26 rfl rfl ?_
    refine r_getP lk_X12_78 (ln_101 hL) (pp_101_53 hL) dX12_again_27 ?_
    refine r_iconst (v := 1) dX12_again_30 (by decide) ?_
    refine r_iald (ln_123 hL) (by rw [(nl_123 hL)]; decide) dX12_again_31 ?_
    refine r_putI lk_X12_22 (Or.inl rfl) (ln_101 hL) rfl rfl dX12_again_32 ?_
    refine r_letI hF (fun I4 hF => ?_)
    refine r_aload_n dX12_again_35 rfl rfl ?_
    refine r_getI lk_X12_81 (ln_101 hL) dX12_again_36 ?_
    obtain rfl := Option.some.inj hF
    exact r_ireturn rfl rfl dX12_again_39 (Nat.le_of_ble_eq_true rfl) (Nat.le_of_ble_eq_true rfl)
  · have hF := tw hF h1
    refine r_bipush (v := (-3)) dX12_again_7 (by decide) ?_
    obtain rfl := Option.some.inj hF
    exact r_ireturn rfl rfl dX12_again_9 (Nat.le_of_ble_eq_true rfl) (Nat.le_of_ble_eq_true rfl)
