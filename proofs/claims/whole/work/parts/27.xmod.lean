def F_X11_fall (N : Nat) (T : TM) (I : IM) (P : PM) (p1 : Int32) (p2 : Int32) (p3 : Int32) (p4 : Int32) (p5 : Int32) : Option (Int32 × IM × PM) := ((F_X11_begin T I P 89 p1 p2 p3 p4).bind (fun x1 => (if x1.1 = 0 then (some ((-2147483648), x1.2.1, x1.2.2)) else ((F_X1_runOut N T x1.2.1 x1.2.2 89 67).bind (fun x3 => (if x3.1 = 0 then (some ((-2147483648), x3.2, x1.2.2)) else (if p5 = 0 then (some ((x3.2 89 2), x3.2, x1.2.2)) else (if p5 = 1 then (some ((x3.2 89 3), x3.2, x1.2.2)) else (if p5 = 2 then (some ((x3.2 89 9), x3.2, x1.2.2)) else (if p5 = 3 then (some ((x3.2 89 10), x3.2, x1.2.2)) else (if p5 = 4 then (some ((F_X1_sort x3.2 89), x3.2, x1.2.2)) else (if p5 = 5 then ((F_X1_square x3.2 89).bind (fun x11 => (some (x11, x3.2, x1.2.2)))) else (some ((-2147483648), x3.2, x1.2.2))))))))))))))
set_option maxHeartbeats 4000000 in
theorem ok_X11_fall {E : GE} {T : TM} {I : IM} {J : JM} {P : PM} {p1 : Int32} {p2 : Int32} {p3 : Int32} {p4 : Int32} {p5 : Int32} {N : Nat} {x : Int32 × IM × PM} (hL : LOK T P) (hF : F_X11_fall N T I P p1 p2 p3 p4 p5 = some x) : CtrP E (LOK T x.2.2) mX11_fall 4 0 0 [.ref 64, .int p1, .int p2, .int p3, .int p4, .int p5] T I J P (some (.int x.1)) T x.2.1 J x.2.2 := by
  unfold F_X11_fall at hF
  refine ctrP_intro (by decide) (Nat.le_of_ble_eq_true rfl) ?_
  refine r_sub (ls' := [(5, .int p5), (4, .int p4), (3, .int p3), (2, .int p2), (1, .int p1), (0, .ref 64)]) [5, 4, 3, 2, 1, 0] rfl ?_
  refine r_aload_n dX11_fall_0 rfl rfl ?_
  refine r_aload_n dX11_fall_1 rfl rfl ?_
  refine r_getP lk_X11_58 (ln_64 hL) (pp_64_12 hL) dX11_fall_2 ?_
  refine r_iload_n dX11_fall_5 rfl rfl ?_
  refine r_iload_n dX11_fall_6 rfl rfl ?_
  refine r_iload_n dX11_fall_7 rfl rfl ?_
  refine r_iload dX11_fall_8 rfl ?_
  obtain ⟨x1, hx1, hF⟩ := bnd hF
  refine cp_virt_i (As := [.ref 89, .int p1, .int p2, .int p3, .int p4]) mi_X11_begin kw_542 ks_13 kw_540 rfl (by decide) (ln_64 hL) (ok_X11_begin hL (ln_89 hL) hx1) rfl rfl (Nat.le_of_ble_eq_true rfl) ⟨Nat.le_of_ble_eq_true rfl, Nat.le_of_ble_eq_true rfl⟩ ⟨Nat.le_of_ble_eq_true rfl, Nat.le_of_ble_eq_true rfl⟩ dX11_fall_10 ?_
  intro hL
  refine r_if_eq (tgt := 33) dX11_fall_13 (by decide) (fun h2 => ?_) (fun h2 => ?_)
  · have hF := tw hF h2
    refine r_ldc dX11_fall_33 kw_621 ?_
    obtain rfl := Option.some.inj hF
    exact p_ireturn (x := (-2147483648)) rfl rfl dX11_fall_35 hL (Nat.le_of_ble_eq_true rfl) (Nat.le_of_ble_eq_true rfl)
  · have hF := fw hF h2
    refine r_aload_n dX11_fall_16 rfl rfl ?_
    refine r_getP lk_X11_58 (ln_64 hL) (pp_64_12 hL) dX11_fall_17 ?_
    refine r_aload_n dX11_fall_20 rfl rfl ?_
    refine r_getP lk_X11_10 (ln_64 hL) (pp_64_0 hL) dX11_fall_21 ?_
    refine r_getP lk_X11_120 (ln_65 hL) (pp_65_2 hL) dX11_fall_24 ?_
    obtain ⟨x3, hx3, hF⟩ := bnd hF
    refine c_virt_i (As := [.ref 67]) mi_X1_runOut kw_632 kw_633 kw_631 rfl (by decide) (ln_89 hL) (ok_X1_runOut hL (ln_89 hL) (ln_67 hL) (nl_67 hL) hx3) rfl rfl (Nat.le_of_ble_eq_true rfl) ⟨Nat.le_of_ble_eq_true rfl, Nat.le_of_ble_eq_true rfl⟩ ⟨Nat.le_of_ble_eq_true rfl, Nat.le_of_ble_eq_true rfl⟩ dX11_fall_27 ?_
    refine r_if_ne (tgt := 36) dX11_fall_30 (by decide) (fun h4 => ?_) (fun h4 => ?_)
    · have hF := fw hF h4
      refine r_iload dX11_fall_36 rfl ?_
      by_cases h5 : p5 = 0
      · have hF := tw hF h5
        refine r_tableIn (off := 38) (tgt := 76) dX11_fall_38 (by rw [h5]; decide) (by rw [h5]; decide) (by rw [h5]; decide) (by decide) ?_
        refine r_aload_n dX11_fall_76 rfl rfl ?_
        refine r_getP lk_X11_58 (ln_64 hL) (pp_64_12 hL) dX11_fall_77 ?_
        refine r_getI lk_X11_156 (ln_89 hL) dX11_fall_80 ?_
        obtain rfl := Option.some.inj hF
        exact p_ireturn (x := (x3.2 89 2)) rfl rfl dX11_fall_83 hL (Nat.le_of_ble_eq_true rfl) (Nat.le_of_ble_eq_true rfl)
      · have hF := fw hF h5
        by_cases h6 : p5 = 1
        · have hF := tw hF h6
          refine r_tableIn (off := 46) (tgt := 84) dX11_fall_38 (by rw [h6]; decide) (by rw [h6]; decide) (by rw [h6]; decide) (by decide) ?_
          refine r_aload_n dX11_fall_84 rfl rfl ?_
          refine r_getP lk_X11_58 (ln_64 hL) (pp_64_12 hL) dX11_fall_85 ?_
          refine r_getI lk_X11_159 (ln_89 hL) dX11_fall_88 ?_
          obtain rfl := Option.some.inj hF
          exact p_ireturn (x := (x3.2 89 3)) rfl rfl dX11_fall_91 hL (Nat.le_of_ble_eq_true rfl) (Nat.le_of_ble_eq_true rfl)
        · have hF := fw hF h6
          by_cases h7 : p5 = 2
          · have hF := tw hF h7
            refine r_tableIn (off := 54) (tgt := 92) dX11_fall_38 (by rw [h7]; decide) (by rw [h7]; decide) (by rw [h7]; decide) (by decide) ?_
            refine r_aload_n dX11_fall_92 rfl rfl ?_
            refine r_getP lk_X11_58 (ln_64 hL) (pp_64_12 hL) dX11_fall_93 ?_
            refine r_getI lk_X11_185 (ln_89 hL) dX11_fall_96 ?_
            obtain rfl := Option.some.inj hF
            exact p_ireturn (x := (x3.2 89 9)) rfl rfl dX11_fall_99 hL (Nat.le_of_ble_eq_true rfl) (Nat.le_of_ble_eq_true rfl)
          · have hF := fw hF h7
            by_cases h8 : p5 = 3
            · have hF := tw hF h8
              refine r_tableIn (off := 62) (tgt := 100) dX11_fall_38 (by rw [h8]; decide) (by rw [h8]; decide) (by rw [h8]; decide) (by decide) ?_
              refine r_aload_n dX11_fall_100 rfl rfl ?_
              refine r_getP lk_X11_58 (ln_64 hL) (pp_64_12 hL) dX11_fall_101 ?_
              refine r_getI lk_X11_188 (ln_89 hL) dX11_fall_104 ?_
              obtain rfl := Option.some.inj hF
              exact p_ireturn (x := (x3.2 89 10)) rfl rfl dX11_fall_107 hL (Nat.le_of_ble_eq_true rfl) (Nat.le_of_ble_eq_true rfl)
            · have hF := fw hF h8
              by_cases h9 : p5 = 4
              · have hF := tw hF h9
                refine r_tableIn (off := 70) (tgt := 108) dX11_fall_38 (by rw [h9]; decide) (by rw [h9]; decide) (by rw [h9]; decide) (by decide) ?_
                refine r_aload_n dX11_fall_108 rfl rfl ?_
                refine r_getP lk_X11_58 (ln_64 hL) (pp_64_12 hL) dX11_fall_109 ?_
                refine c_virt_i (As := []) mi_X1_sort kw_638 kw_639 kw_637 rfl (by decide) (ln_89 hL) (ok_X1_sort hL (ln_89 hL) (a := 89)) rfl rfl (Nat.le_of_ble_eq_true rfl) ⟨Nat.le_of_ble_eq_true rfl, Nat.le_of_ble_eq_true rfl⟩ ⟨Nat.le_of_ble_eq_true rfl, Nat.le_of_ble_eq_true rfl⟩ dX11_fall_112 ?_
                obtain rfl := Option.some.inj hF
                exact p_ireturn (x := (F_X1_sort x3.2 89)) rfl rfl dX11_fall_115 hL (Nat.le_of_ble_eq_true rfl) (Nat.le_of_ble_eq_true rfl)
              · have hF := fw hF h9
                by_cases h10 : p5 = 5
                · have hF := tw hF h10
                  refine r_tableIn (off := 78) (tgt := 116) dX11_fall_38 (by rw [h10]; decide) (by rw [h10]; decide) (by rw [h10]; decide) (by decide) ?_
                  refine r_aload_n dX11_fall_116 rfl rfl ?_
                  refine r_getP lk_X11_58 (ln_64 hL) (pp_64_12 hL) dX11_fall_117 ?_
                  obtain ⟨x11, hx11, hF⟩ := bnd hF
                  refine c_virt_i (As := []) mi_X1_square kw_642 kw_643 kw_641 rfl (by decide) (ln_89 hL) (ok_X1_square hL (ln_89 hL) hx11) rfl rfl (Nat.le_of_ble_eq_true rfl) ⟨Nat.le_of_ble_eq_true rfl, Nat.le_of_ble_eq_true rfl⟩ ⟨Nat.le_of_ble_eq_true rfl, Nat.le_of_ble_eq_true rfl⟩ dX11_fall_120 ?_
                  obtain rfl := Option.some.inj hF
                  exact p_ireturn (x := x11) rfl rfl dX11_fall_123 hL (Nat.le_of_ble_eq_true rfl) (Nat.le_of_ble_eq_true rfl)
                · have hF := fw hF h10
                  have eh5 := nei 0 (by decide) h5
                  have eh6 := nei 1 (by decide) h6
                  have eh7 := nei 2 (by decide) h7
                  have eh8 := nei 3 (by decide) h8
                  have eh9 := nei 4 (by decide) h9
                  have eh10 := nei 5 (by decide) h10
                  refine r_tableOut (tgt := 124) dX11_fall_38 (by omega) (by decide) ?_
                  refine r_ldc dX11_fall_124 kw_621 ?_
                  obtain rfl := Option.some.inj hF
                  exact p_ireturn (x := (-2147483648)) rfl rfl dX11_fall_126 hL (Nat.le_of_ble_eq_true rfl) (Nat.le_of_ble_eq_true rfl)
    · have hF := tw hF h4
      refine r_ldc dX11_fall_33 kw_621 ?_
      obtain rfl := Option.some.inj hF
      exact p_ireturn (x := (-2147483648)) rfl rfl dX11_fall_35 hL (Nat.le_of_ble_eq_true rfl) (Nat.le_of_ble_eq_true rfl)
def G_X11_line_32 (N : Nat) (T : TM) (u1 : Int32) (u2 : Int32) (u3 : Int32) (u4 : Int32) (u5 : Int32) : Nat → Int32 → IM → PM → Option (Int32 × IM × PM)
  | 0, _, _, _ => none
  | n + 1, u6, Iv, Pv => (if 99 < u6 then (some ((-3), Iv, Pv)) else ((F_X11_begin T Iv Pv 89 u1 u2 u3 u4).bind (fun x6 => (letb (up2 x6.2.1 89 1 u6) (fun I7 : IM => ((F_X1_runOut N T I7 x6.2.2 89 67).bind (fun x8 => (if x8.1 = 0 then (G_X11_line_32 N T u1 u2 u3 u4 u5 n (u6 + 1) x8.2 x6.2.2) else (if (F_X1_sort x8.2 89) = u5 then (some (u6, x8.2, x6.2.2)) else (G_X11_line_32 N T u1 u2 u3 u4 u5 n (u6 + 1) x8.2 x6.2.2))))))))))
set_option maxHeartbeats 4000000 in
theorem okG_X11_line_32 {E : GE} {T : TM} {J : JM} {N : Nat} {u1 : Int32} {u2 : Int32} {u3 : Int32} {u4 : Int32} {u5 : Int32} {x : Int32 × IM × PM} : ∀ (n : Nat) (u6 : Int32) (Iv : IM) (Pv : PM), LOK T Pv → G_X11_line_32 N T u1 u2 u3 u4 u5 n u6 Iv Pv = some x → WW E mX11_line (RM 4 0 0) (ZP E (LOK T x.2.2) 0 0 (some (.int x.1)) T x.2.1 J x.2.2) 0 0 T Iv J Pv 32 [(0, .ref 64), (1, .int u1), (2, .int u2), (3, .int u3), (4, .int u4), (5, .int u5), (6, .int u6)] [] := by
  intro n
  induction n with
  | zero =>
    intro u6 Iv Pv hL hF
    cases hF
  | succ n ih =>
    intro u6 Iv Pv hL hF
    rw [G_X11_line_32] at hF
    refine r_iload dX11_line_32 rfl ?_
    refine r_bipush (v := 99) dX11_line_34 (by decide) ?_
    refine r_icmp_gt (tgt := 100) dX11_line_36 (by decide) (fun h5 => ?_) (fun h5 => ?_)
    · have hF := tw hF h5
      refine r_bipush (v := (-3)) dX11_line_100 (by decide) ?_
      obtain rfl := Option.some.inj hF
      exact p_ireturn (x := (-3)) rfl rfl dX11_line_102 hL (Nat.le_of_ble_eq_true rfl) (Nat.le_of_ble_eq_true rfl)
    · have hF := fw hF h5
      refine r_aload_n dX11_line_39 rfl rfl ?_
      refine r_aload_n dX11_line_40 rfl rfl ?_
      refine r_getP lk_X11_58 (ln_64 hL) (pp_64_12 hL) dX11_line_41 ?_
      refine r_iload_n dX11_line_44 rfl rfl ?_
      refine r_iload_n dX11_line_45 rfl rfl ?_
      refine r_iload_n dX11_line_46 rfl rfl ?_
      refine r_iload dX11_line_47 rfl ?_
      obtain ⟨x6, hx6, hF⟩ := bnd hF
      refine cp_virt_i (As := [.ref 89, .int u1, .int u2, .int u3, .int u4]) mi_X11_begin kw_542 ks_13 kw_540 rfl (by decide) (ln_64 hL) (ok_X11_begin hL (ln_89 hL) hx6) rfl rfl (Nat.le_of_ble_eq_true rfl) ⟨Nat.le_of_ble_eq_true rfl, Nat.le_of_ble_eq_true rfl⟩ ⟨Nat.le_of_ble_eq_true rfl, Nat.le_of_ble_eq_true rfl⟩ dX11_line_49 ?_
      intro hL
      refine r_pop dX11_line_52 rfl ?_
      refine r_aload_n dX11_line_53 rfl rfl ?_
      refine r_getP lk_X11_58 (ln_64 hL) (pp_64_12 hL) dX11_line_54 ?_
      refine r_iload dX11_line_57 rfl ?_
      refine r_putI lk_X11_197 (Or.inl rfl) (ln_89 hL) rfl rfl dX11_line_59 ?_
      refine r_letI hF (fun I7 hF => ?_)
      refine r_aload_n dX11_line_62 rfl rfl ?_
      refine r_getP lk_X11_58 (ln_64 hL) (pp_64_12 hL) dX11_line_63 ?_
      refine r_aload_n dX11_line_66 rfl rfl ?_
      refine r_getP lk_X11_10 (ln_64 hL) (pp_64_0 hL) dX11_line_67 ?_
      refine r_getP lk_X11_120 (ln_65 hL) (pp_65_2 hL) dX11_line_70 ?_
      obtain ⟨x8, hx8, hF⟩ := bnd hF
      refine c_virt_i (As := [.ref 67]) mi_X1_runOut kw_632 kw_633 kw_631 rfl (by decide) (ln_89 hL) (ok_X1_runOut hL (ln_89 hL) (ln_67 hL) (nl_67 hL) hx8) rfl rfl (Nat.le_of_ble_eq_true rfl) ⟨Nat.le_of_ble_eq_true rfl, Nat.le_of_ble_eq_true rfl⟩ ⟨Nat.le_of_ble_eq_true rfl, Nat.le_of_ble_eq_true rfl⟩ dX11_line_73 ?_
      refine r_if_eq (tgt := 94) dX11_line_76 (by decide) (fun h9 => ?_) (fun h9 => ?_)
      · have hF := tw hF h9
        refine r_iinc (v := (u6 + 1)) (ls' := [(6, .int (u6 + 1)), (0, .ref 64), (1, .int u1), (2, .int u2), (3, .int u3), (4, .int u4), (5, .int u5)]) dX11_line_94 rfl rfl (by decide) rfl ?_
        refine r_goto (tgt := 32) dX11_line_97 (by decide) ?_
        refine r_sub (ls' := [(0, .ref 64), (1, .int u1), (2, .int u2), (3, .int u3), (4, .int u4), (5, .int u5), (6, .int (u6 + 1))]) [1, 2, 3, 4, 5, 6, 0] rfl ?_
        exact ih (u6 + 1) x8.2 x6.2.2 hL hF
      · have hF := fw hF h9
        refine r_aload_n dX11_line_79 rfl rfl ?_
        refine r_getP lk_X11_58 (ln_64 hL) (pp_64_12 hL) dX11_line_80 ?_
        refine c_virt_i (As := []) mi_X1_sort kw_638 kw_639 kw_637 rfl (by decide) (ln_89 hL) (ok_X1_sort hL (ln_89 hL) (a := 89)) rfl rfl (Nat.le_of_ble_eq_true rfl) ⟨Nat.le_of_ble_eq_true rfl, Nat.le_of_ble_eq_true rfl⟩ ⟨Nat.le_of_ble_eq_true rfl, Nat.le_of_ble_eq_true rfl⟩ dX11_line_83 ?_
        refine r_iload dX11_line_86 rfl ?_
        refine r_icmp_ne (tgt := 94) dX11_line_88 (by decide) (fun h10 => ?_) (fun h10 => ?_)
        · have hF := fw hF h10
          refine r_iinc (v := (u6 + 1)) (ls' := [(6, .int (u6 + 1)), (0, .ref 64), (1, .int u1), (2, .int u2), (3, .int u3), (4, .int u4), (5, .int u5)]) dX11_line_94 rfl rfl (by decide) rfl ?_
          refine r_goto (tgt := 32) dX11_line_97 (by decide) ?_
          refine r_sub (ls' := [(0, .ref 64), (1, .int u1), (2, .int u2), (3, .int u3), (4, .int u4), (5, .int u5), (6, .int (u6 + 1))]) [1, 2, 3, 4, 5, 6, 0] rfl ?_
          exact ih (u6 + 1) x8.2 x6.2.2 hL hF
        · have hF := tw hF h10
          refine r_iload dX11_line_91 rfl ?_
          obtain rfl := Option.some.inj hF
          exact p_ireturn (x := u6) rfl rfl dX11_line_93 hL (Nat.le_of_ble_eq_true rfl) (Nat.le_of_ble_eq_true rfl)
def F_X11_line (N : Nat) (T : TM) (I : IM) (P : PM) (p1 : Int32) (p2 : Int32) (p3 : Int32) (p4 : Int32) (p5 : Int32) : Option (Int32 × IM × PM) := (if p5 < 0 then (some ((-1), I, P)) else (if 3 < p5 then (some ((-1), I, P)) else ((F_X11_begin T I P 89 p1 p2 p3 p4).bind (fun x3 => (if x3.1 = 0 then (some ((-1), x3.2.1, x3.2.2)) else (G_X11_line_32 N T p1 p2 p3 p4 p5 N 1 x3.2.1 x3.2.2))))))
set_option maxHeartbeats 4000000 in
theorem ok_X11_line {E : GE} {T : TM} {I : IM} {J : JM} {P : PM} {p1 : Int32} {p2 : Int32} {p3 : Int32} {p4 : Int32} {p5 : Int32} {N : Nat} {x : Int32 × IM × PM} (hL : LOK T P) (hF : F_X11_line N T I P p1 p2 p3 p4 p5 = some x) : CtrP E (LOK T x.2.2) mX11_line 4 0 0 [.ref 64, .int p1, .int p2, .int p3, .int p4, .int p5] T I J P (some (.int x.1)) T x.2.1 J x.2.2 := by
  unfold F_X11_line at hF
  refine ctrP_intro (by decide) (Nat.le_of_ble_eq_true rfl) ?_
  refine r_sub (ls' := [(5, .int p5), (4, .int p4), (3, .int p3), (2, .int p2), (1, .int p1), (0, .ref 64)]) [5, 4, 3, 2, 1, 0] rfl ?_
  refine r_iload dX11_line_0 rfl ?_
  refine r_if_lt (tgt := 27) dX11_line_2 (by decide) (fun h1 => ?_) (fun h1 => ?_)
  · have hF := tw hF h1
    refine r_iconst (v := (-1)) dX11_line_27 (by decide) ?_
    obtain rfl := Option.some.inj hF
    exact p_ireturn (x := (-1)) rfl rfl dX11_line_28 hL (Nat.le_of_ble_eq_true rfl) (Nat.le_of_ble_eq_true rfl)
  · have hF := fw hF h1
    refine r_iload dX11_line_5 rfl ?_
    refine r_iconst (v := 3) dX11_line_7 (by decide) ?_
    refine r_icmp_gt (tgt := 27) dX11_line_8 (by decide) (fun h2 => ?_) (fun h2 => ?_)
    · have hF := tw hF h2
      refine r_iconst (v := (-1)) dX11_line_27 (by decide) ?_
      obtain rfl := Option.some.inj hF
      exact p_ireturn (x := (-1)) rfl rfl dX11_line_28 hL (Nat.le_of_ble_eq_true rfl) (Nat.le_of_ble_eq_true rfl)
    · have hF := fw hF h2
      refine r_aload_n dX11_line_11 rfl rfl ?_
      refine r_aload_n dX11_line_12 rfl rfl ?_
      refine r_getP lk_X11_58 (ln_64 hL) (pp_64_12 hL) dX11_line_13 ?_
      refine r_iload_n dX11_line_16 rfl rfl ?_
      refine r_iload_n dX11_line_17 rfl rfl ?_
      refine r_iload_n dX11_line_18 rfl rfl ?_
      refine r_iload dX11_line_19 rfl ?_
      obtain ⟨x3, hx3, hF⟩ := bnd hF
      refine cp_virt_i (As := [.ref 89, .int p1, .int p2, .int p3, .int p4]) mi_X11_begin kw_542 ks_13 kw_540 rfl (by decide) (ln_64 hL) (ok_X11_begin hL (ln_89 hL) hx3) rfl rfl (Nat.le_of_ble_eq_true rfl) ⟨Nat.le_of_ble_eq_true rfl, Nat.le_of_ble_eq_true rfl⟩ ⟨Nat.le_of_ble_eq_true rfl, Nat.le_of_ble_eq_true rfl⟩ dX11_line_21 ?_
      intro hL
      refine r_if_ne (tgt := 29) dX11_line_24 (by decide) (fun h4 => ?_) (fun h4 => ?_)
      · have hF := fw hF h4
        refine r_iconst (v := 1) dX11_line_29 (by decide) ?_
        refine r_istore (ls' := [(6, .int 1), (5, .int p5), (4, .int p4), (3, .int p3), (2, .int p2), (1, .int p1), (0, .ref 64)]) dX11_line_30 (by decide) rfl ?_
        refine r_sub (ls' := [(0, .ref 64), (1, .int p1), (2, .int p2), (3, .int p3), (4, .int p4), (5, .int p5), (6, .int 1)]) [6, 5, 4, 3, 2, 1, 0] rfl ?_
        exact okG_X11_line_32    N 1 x3.2.1 x3.2.2 hL hF
      · have hF := tw hF h4
        refine r_iconst (v := (-1)) dX11_line_27 (by decide) ?_
        obtain rfl := Option.some.inj hF
        exact p_ireturn (x := (-1)) rfl rfl dX11_line_28 hL (Nat.le_of_ble_eq_true rfl) (Nat.le_of_ble_eq_true rfl)
def G_X11_parted_53 (N : Nat) (T : TM) (P : PM) (u5 : Int32) : Nat → Int32 → IM → Option (Int32 × IM × PM)
  | 0, _, _ => none
  | n + 1, u6, Iv => (if 400 ≤ u6 then (some ((-3), Iv, P)) else (if (F_X1_landed Iv 89) = 0 then (if (F_X1_landed Iv 90) = 0 then ((F_X1_step T Iv P 89 67).bind (fun x9 => ((F_X1_step T x9 P 90 67).bind (fun x10 => (if (if 0 ≤ ((x10 89 3) - (x10 90 3)) then ((x10 89 3) - (x10 90 3)) else 0 - ((x10 89 3) - (x10 90 3))) ≤ u5 then (G_X11_parted_53 N T P u5 n (u6 + 1) x10) else (some ((x10 89 2), x10, P))))))) else (some ((-3), Iv, P))) else (some ((-3), Iv, P))))
set_option maxHeartbeats 4000000 in
theorem okG_X11_parted_53 {E : GE} {T : TM} {J : JM} {P : PM} {N : Nat} {u5 : Int32} {x : Int32 × IM × PM} (hL : LOK T P) : ∀ (n : Nat) (u6 : Int32) (Iv : IM), G_X11_parted_53 N T P u5 n u6 Iv = some x → WW E mX11_parted (RM 3 0 0) (ZP E (LOK T x.2.2) 0 0 (some (.int x.1)) T x.2.1 J x.2.2) 0 0 T Iv J P 53 [(0, .ref 64), (5, .int u5), (6, .int u6)] [] := by
  intro n
  induction n with
  | zero =>
    intro u6 Iv hF
    cases hF
  | succ n ih =>
    intro u6 Iv hF
    rw [G_X11_parted_53] at hF
    refine r_iload dX11_parted_53 rfl ?_
    refine r_sipush (v := 400) dX11_parted_55 (by decide) ?_
    refine r_icmp_ge (tgt := 146) dX11_parted_58 (by decide) (fun h6 => ?_) (fun h6 => ?_)
    · have hF := tw hF h6
      refine r_bipush (v := (-3)) dX11_parted_146 (by decide) ?_
      obtain rfl := Option.some.inj hF
      exact p_ireturn (x := (-3)) rfl rfl dX11_parted_148 hL (Nat.le_of_ble_eq_true rfl) (Nat.le_of_ble_eq_true rfl)
    · have hF := fw hF h6
      refine r_aload_n dX11_parted_61 rfl rfl ?_
      refine r_getP lk_X11_58 (ln_64 hL) (pp_64_12 hL) dX11_parted_62 ?_
      refine c_virt_i (As := []) mi_X1_landed kw_556 kw_557 kw_555 rfl (by decide) (ln_89 hL) (ok_X1_landed hL (ln_89 hL) (a := 89)) rfl rfl (Nat.le_of_ble_eq_true rfl) ⟨Nat.le_of_ble_eq_true rfl, Nat.le_of_ble_eq_true rfl⟩ ⟨Nat.le_of_ble_eq_true rfl, Nat.le_of_ble_eq_true rfl⟩ dX11_parted_65 ?_
      refine r_if_ne (tgt := 146) dX11_parted_68 (by decide) (fun h7 => ?_) (fun h7 => ?_)
      · have hF := fw hF h7
        refine r_bipush (v := (-3)) dX11_parted_146 (by decide) ?_
        obtain rfl := Option.some.inj hF
        exact p_ireturn (x := (-3)) rfl rfl dX11_parted_148 hL (Nat.le_of_ble_eq_true rfl) (Nat.le_of_ble_eq_true rfl)
      · have hF := tw hF h7
        refine r_aload_n dX11_parted_71 rfl rfl ?_
        refine r_getP lk_X11_62 (ln_64 hL) (pp_64_13 hL) dX11_parted_72 ?_
        refine c_virt_i (As := []) mi_X1_landed kw_556 kw_557 kw_555 rfl (by decide) (ln_90 hL) (ok_X1_landed hL (ln_90 hL) (a := 90)) rfl rfl (Nat.le_of_ble_eq_true rfl) ⟨Nat.le_of_ble_eq_true rfl, Nat.le_of_ble_eq_true rfl⟩ ⟨Nat.le_of_ble_eq_true rfl, Nat.le_of_ble_eq_true rfl⟩ dX11_parted_75 ?_
        refine r_if_ne (tgt := 146) dX11_parted_78 (by decide) (fun h8 => ?_) (fun h8 => ?_)
        · have hF := fw hF h8
          refine r_bipush (v := (-3)) dX11_parted_146 (by decide) ?_
          obtain rfl := Option.some.inj hF
          exact p_ireturn (x := (-3)) rfl rfl dX11_parted_148 hL (Nat.le_of_ble_eq_true rfl) (Nat.le_of_ble_eq_true rfl)
        · have hF := tw hF h8
          refine r_aload_n dX11_parted_81 rfl rfl ?_
          refine r_getP lk_X11_58 (ln_64 hL) (pp_64_12 hL) dX11_parted_82 ?_
          refine r_aload_n dX11_parted_85 rfl rfl ?_
          refine r_getP lk_X11_10 (ln_64 hL) (pp_64_0 hL) dX11_parted_86 ?_
          refine r_getP lk_X11_120 (ln_65 hL) (pp_65_2 hL) dX11_parted_89 ?_
          obtain ⟨x9, hx9, hF⟩ := bnd hF
          refine c_virt_v (As := [.ref 67]) mi_X1_step kw_560 kw_561 kw_559 rfl (by decide) (ln_89 hL) (ok_X1_step hL (ln_89 hL) (ln_67 hL) (nl_67 hL) hx9) rfl rfl (Nat.le_of_ble_eq_true rfl) ⟨Nat.le_of_ble_eq_true rfl, Nat.le_of_ble_eq_true rfl⟩ ⟨Nat.le_of_ble_eq_true rfl, Nat.le_of_ble_eq_true rfl⟩ dX11_parted_92 ?_
          refine r_aload_n dX11_parted_95 rfl rfl ?_
          refine r_getP lk_X11_62 (ln_64 hL) (pp_64_13 hL) dX11_parted_96 ?_
          refine r_aload_n dX11_parted_99 rfl rfl ?_
          refine r_getP lk_X11_10 (ln_64 hL) (pp_64_0 hL) dX11_parted_100 ?_
          refine r_getP lk_X11_120 (ln_65 hL) (pp_65_2 hL) dX11_parted_103 ?_
          obtain ⟨x10, hx10, hF⟩ := bnd hF
          refine c_virt_v (As := [.ref 67]) mi_X1_step kw_560 kw_561 kw_559 rfl (by decide) (ln_90 hL) (ok_X1_step hL (ln_90 hL) (ln_67 hL) (nl_67 hL) hx10) rfl rfl (Nat.le_of_ble_eq_true rfl) ⟨Nat.le_of_ble_eq_true rfl, Nat.le_of_ble_eq_true rfl⟩ ⟨Nat.le_of_ble_eq_true rfl, Nat.le_of_ble_eq_true rfl⟩ dX11_parted_106 ?_
          refine r_aload_n dX11_parted_109 rfl rfl ?_
          refine r_getP lk_X11_58 (ln_64 hL) (pp_64_12 hL) dX11_parted_110 ?_
          refine r_getI lk_X11_159 (ln_89 hL) dX11_parted_113 ?_
          refine r_aload_n dX11_parted_116 rfl rfl ?_
          refine r_getP lk_X11_62 (ln_64 hL) (pp_64_13 hL) dX11_parted_117 ?_
          refine r_getI lk_X11_159 (ln_90 hL) dX11_parted_120 ?_
          refine r_isub dX11_parted_123 ?_
          refine r_abs kw_656 kw_565 kw_13 kw_566 ⟨Nat.le_of_ble_eq_true rfl, Nat.le_of_ble_eq_true rfl, Nat.le_of_ble_eq_true rfl, Nat.le_of_ble_eq_true rfl⟩ dX11_parted_124 ?_
          refine r_iload dX11_parted_127 rfl ?_
          refine r_icmp_le (tgt := 140) dX11_parted_129 (by decide) (fun h11 => ?_) (fun h11 => ?_)
          · have hF := tw hF h11
            refine r_iinc (v := (u6 + 1)) (ls' := [(6, .int (u6 + 1)), (0, .ref 64), (5, .int u5)]) dX11_parted_140 rfl rfl (by decide) rfl ?_
            refine r_goto (tgt := 53) dX11_parted_143 (by decide) ?_
            refine r_sub (ls' := [(0, .ref 64), (5, .int u5), (6, .int (u6 + 1))]) [1, 2, 0] rfl ?_
            exact ih (u6 + 1) x10 hF
          · have hF := fw hF h11
            refine r_aload_n dX11_parted_132 rfl rfl ?_
            refine r_getP lk_X11_58 (ln_64 hL) (pp_64_12 hL) dX11_parted_133 ?_
            refine r_getI lk_X11_156 (ln_89 hL) dX11_parted_136 ?_
            obtain rfl := Option.some.inj hF
            exact p_ireturn (x := (x10 89 2)) rfl rfl dX11_parted_139 hL (Nat.le_of_ble_eq_true rfl) (Nat.le_of_ble_eq_true rfl)
def F_X11_parted (N : Nat) (T : TM) (I : IM) (P : PM) (p1 : Int32) (p2 : Int32) (p3 : Int32) (p4 : Int32) (p5 : Int32) : Option (Int32 × IM × PM) := (if p5 < 0 then (some ((-1), I, P)) else (if 9999 < p5 then (some ((-1), I, P)) else ((F_X11_begin T I P 89 p1 p2 p3 p4).bind (fun x3 => (if x3.1 = 0 then (some ((-1), x3.2.1, x3.2.2)) else ((F_X11_begin T x3.2.1 x3.2.2 90 p1 p2 ((p3 + 1) - (p3 + 1) / 36 * 36) p4).bind (fun x5 => (G_X11_parted_53 N T x5.2.2 p5 N 0 x5.2.1))))))))
set_option maxHeartbeats 4000000 in
theorem ok_X11_parted {E : GE} {T : TM} {I : IM} {J : JM} {P : PM} {p1 : Int32} {p2 : Int32} {p3 : Int32} {p4 : Int32} {p5 : Int32} {N : Nat} {x : Int32 × IM × PM} (hL : LOK T P) (hF : F_X11_parted N T I P p1 p2 p3 p4 p5 = some x) : CtrP E (LOK T x.2.2) mX11_parted 3 0 0 [.ref 64, .int p1, .int p2, .int p3, .int p4, .int p5] T I J P (some (.int x.1)) T x.2.1 J x.2.2 := by
  unfold F_X11_parted at hF
  refine ctrP_intro (by decide) (Nat.le_of_ble_eq_true rfl) ?_
  refine r_sub (ls' := [(5, .int p5), (4, .int p4), (3, .int p3), (2, .int p2), (1, .int p1), (0, .ref 64)]) [5, 4, 3, 2, 1, 0] rfl ?_
  refine r_iload dX11_parted_0 rfl ?_
  refine r_if_lt (tgt := 29) dX11_parted_2 (by decide) (fun h1 => ?_) (fun h1 => ?_)
  · have hF := tw hF h1
    refine r_iconst (v := (-1)) dX11_parted_29 (by decide) ?_
    obtain rfl := Option.some.inj hF
    exact p_ireturn (x := (-1)) rfl rfl dX11_parted_30 hL (Nat.le_of_ble_eq_true rfl) (Nat.le_of_ble_eq_true rfl)
  · have hF := fw hF h1
    refine r_iload dX11_parted_5 rfl ?_
    refine r_sipush (v := 9999) dX11_parted_7 (by decide) ?_
    refine r_icmp_gt (tgt := 29) dX11_parted_10 (by decide) (fun h2 => ?_) (fun h2 => ?_)
    · have hF := tw hF h2
      refine r_iconst (v := (-1)) dX11_parted_29 (by decide) ?_
      obtain rfl := Option.some.inj hF
      exact p_ireturn (x := (-1)) rfl rfl dX11_parted_30 hL (Nat.le_of_ble_eq_true rfl) (Nat.le_of_ble_eq_true rfl)
    · have hF := fw hF h2
      refine r_aload_n dX11_parted_13 rfl rfl ?_
      refine r_aload_n dX11_parted_14 rfl rfl ?_
      refine r_getP lk_X11_58 (ln_64 hL) (pp_64_12 hL) dX11_parted_15 ?_
      refine r_iload_n dX11_parted_18 rfl rfl ?_
      refine r_iload_n dX11_parted_19 rfl rfl ?_
      refine r_iload_n dX11_parted_20 rfl rfl ?_
      refine r_iload dX11_parted_21 rfl ?_
      obtain ⟨x3, hx3, hF⟩ := bnd hF
      refine cp_virt_i (As := [.ref 89, .int p1, .int p2, .int p3, .int p4]) mi_X11_begin kw_542 ks_13 kw_540 rfl (by decide) (ln_64 hL) (ok_X11_begin hL (ln_89 hL) hx3) rfl rfl (Nat.le_of_ble_eq_true rfl) ⟨Nat.le_of_ble_eq_true rfl, Nat.le_of_ble_eq_true rfl⟩ ⟨Nat.le_of_ble_eq_true rfl, Nat.le_of_ble_eq_true rfl⟩ dX11_parted_23 ?_
      intro hL
      refine r_if_ne (tgt := 31) dX11_parted_26 (by decide) (fun h4 => ?_) (fun h4 => ?_)
      · have hF := fw hF h4
        refine r_aload_n dX11_parted_31 rfl rfl ?_
        refine r_aload_n dX11_parted_32 rfl rfl ?_
        refine r_getP lk_X11_62 (ln_64 hL) (pp_64_13 hL) dX11_parted_33 ?_
        refine r_iload_n dX11_parted_36 rfl rfl ?_
        refine r_iload_n dX11_parted_37 rfl rfl ?_
        refine r_iload_n dX11_parted_38 rfl rfl ?_
        refine r_iconst (v := 1) dX11_parted_39 (by decide) ?_
        refine r_iadd dX11_parted_40 ?_
        refine r_bipush (v := 36) dX11_parted_41 (by decide) ?_
        refine r_irem dX11_parted_43 (by decide) ?_
        refine r_iload dX11_parted_44 rfl ?_
        obtain ⟨x5, hx5, hF⟩ := bnd hF
        refine cp_virt_i (As := [.ref 90, .int p1, .int p2, .int ((p3 + 1) - (p3 + 1) / 36 * 36), .int p4]) mi_X11_begin kw_542 ks_13 kw_540 rfl (by decide) (ln_64 hL) (ok_X11_begin hL (ln_90 hL) hx5) rfl rfl (Nat.le_of_ble_eq_true rfl) ⟨Nat.le_of_ble_eq_true rfl, Nat.le_of_ble_eq_true rfl⟩ ⟨Nat.le_of_ble_eq_true rfl, Nat.le_of_ble_eq_true rfl⟩ dX11_parted_46 ?_
        intro hL
        refine r_pop dX11_parted_49 rfl ?_
        refine r_iconst (v := 0) dX11_parted_50 (by decide) ?_
        refine r_istore (ls' := [(6, .int 0), (5, .int p5), (4, .int p4), (3, .int p3), (2, .int p2), (1, .int p1), (0, .ref 64)]) dX11_parted_51 (by decide) rfl ?_
        refine r_sub (ls' := [(0, .ref 64), (5, .int p5), (6, .int 0)]) [6, 1, 0] rfl ?_
        exact okG_X11_parted_53 hL   N 0 x5.2.1 hF
      · have hF := tw hF h4
        refine r_iconst (v := (-1)) dX11_parted_29 (by decide) ?_
        obtain rfl := Option.some.inj hF
        exact p_ireturn (x := (-1)) rfl rfl dX11_parted_30 hL (Nat.le_of_ble_eq_true rfl) (Nat.le_of_ble_eq_true rfl)
def F_X11_isSquare (p1 : Int32) : Int32 := (if p1 < (-999) then 0 else (if 999 < p1 then 0 else 1))
set_option maxHeartbeats 4000000 in
theorem ok_X11_isSquare {E : GE} {T : TM} {I : IM} {J : JM} {P : PM} {p1 : Int32} (hL : LOK T P) : Ctr E mX11_isSquare 0 0 0 [.int p1] T I J P (some (.int (F_X11_isSquare p1))) T I J P := by
  generalize hF : F_X11_isSquare p1 = r
  unfold F_X11_isSquare at hF
  refine ctr_intro rfl (by decide +kernel) (Nat.le_of_ble_eq_true rfl) ?_
  refine r_sub (ls' := [(0, .int p1)]) [0] rfl ?_
  refine r_iload_n dX11_isSquare_0 rfl rfl ?_
  refine r_sipush (v := (-999)) dX11_isSquare_1 (by decide) ?_
  refine r_icmp_lt (tgt := 18) dX11_isSquare_4 (by decide) (fun h1 => ?_) (fun h1 => ?_)
  · have hF := tw hF h1
    refine r_iconst (v := 0) dX11_isSquare_18 (by decide) ?_
    obtain rfl := hF
    exact r_ireturn (x := 0) rfl rfl dX11_isSquare_19 (Nat.le_of_ble_eq_true rfl) (Nat.le_of_ble_eq_true rfl)
  · have hF := fw hF h1
    refine r_iload_n dX11_isSquare_7 rfl rfl ?_
    refine r_sipush (v := 999) dX11_isSquare_8 (by decide) ?_
    refine r_icmp_gt (tgt := 18) dX11_isSquare_11 (by decide) (fun h2 => ?_) (fun h2 => ?_)
    · have hF := tw hF h2
      refine r_iconst (v := 0) dX11_isSquare_18 (by decide) ?_
      obtain rfl := hF
      exact r_ireturn (x := 0) rfl rfl dX11_isSquare_19 (Nat.le_of_ble_eq_true rfl) (Nat.le_of_ble_eq_true rfl)
    · have hF := fw hF h2
      refine r_iconst (v := 1) dX11_isSquare_14 (by decide) ?_
      refine r_goto (tgt := 19) dX11_isSquare_15 (by decide) ?_
      obtain rfl := hF
      exact r_ireturn (x := 1) rfl rfl dX11_isSquare_19 (Nat.le_of_ble_eq_true rfl) (Nat.le_of_ble_eq_true rfl)
theorem nz_X11_isSquare (p1 : Int32) : narrow .boolean (.int (F_X11_isSquare p1)) = .int (F_X11_isSquare p1) := by
  unfold F_X11_isSquare
  repeat' split
  all_goals first | rfl
def F_X11_byHand (p1 : Int32) (p2 : Int32) : Option (Int32) := ((F_J9_floorMod_7cf53 ((p1 + p2) - 2) 36).bind (fun x1 => (some x1)))
set_option maxHeartbeats 4000000 in
theorem ok_X11_byHand {E : GE} {T : TM} {I : IM} {J : JM} {P : PM} {p1 : Int32} {p2 : Int32} {x : Int32} (hL : LOK T P) (hF : F_X11_byHand p1 p2 = some x) : Ctr E mX11_byHand 1 0 0 [.int p1, .int p2] T I J P (some (.int x)) T I J P := by
  unfold F_X11_byHand at hF
  refine ctr_intro rfl (by decide +kernel) (Nat.le_of_ble_eq_true rfl) ?_
  refine r_sub (ls' := [(1, .int p2), (0, .int p1)]) [1, 0] rfl ?_
  refine r_iload_n dX11_byHand_0 rfl rfl ?_
  refine r_iload_n dX11_byHand_1 rfl rfl ?_
  refine r_iadd dX11_byHand_2 ?_
  refine r_iconst (v := 2) dX11_byHand_3 (by decide) ?_
  refine r_isub dX11_byHand_4 ?_
  refine r_bipush (v := 36) dX11_byHand_5 (by decide) ?_
  obtain ⟨x1, hx1, hF⟩ := bnd hF
  refine c_static_i (As := [.int ((p1 + p2) - 2), .int 36]) mi_J9_floorMod_7cf53 kw_607 kw_667 (ok_J9_floorMod_7cf53 hL  hx1) rfl rfl (Nat.le_of_ble_eq_true rfl) ⟨Nat.le_of_ble_eq_true rfl, Nat.le_of_ble_eq_true rfl⟩ ⟨Nat.le_of_ble_eq_true rfl, Nat.le_of_ble_eq_true rfl⟩ dX11_byHand_7 ?_
  obtain rfl := Option.some.inj hF
  exact r_ireturn (x := x1) rfl rfl dX11_byHand_10 (Nat.le_of_ble_eq_true rfl) (Nat.le_of_ble_eq_true rfl)
def F_X11_landsOn (N : Nat) (T : TM) (I : IM) (P : PM) (p1 : Int32) (p2 : Int32) (p3 : Int32) (p4 : Int32) : Option (Int32 × IM × PM) := ((F_X11_begin T I P 89 p1 p2 p3 p4).bind (fun x1 => (if x1.1 = 0 then (some ((-2147483648), x1.2.1, x1.2.2)) else ((F_X1_runOut N T x1.2.1 x1.2.2 89 67).bind (fun x3 => (if x3.1 = 0 then (some ((-2147483648), x3.2, x1.2.2)) else ((F_X1_square x3.2 89).bind (fun x5 => (some (x5, x3.2, x1.2.2))))))))))
set_option maxHeartbeats 4000000 in
theorem ok_X11_landsOn {E : GE} {T : TM} {I : IM} {J : JM} {P : PM} {p1 : Int32} {p2 : Int32} {p3 : Int32} {p4 : Int32} {N : Nat} {x : Int32 × IM × PM} (hL : LOK T P) (hF : F_X11_landsOn N T I P p1 p2 p3 p4 = some x) : CtrP E (LOK T x.2.2) mX11_landsOn 4 0 0 [.ref 64, .int p1, .int p2, .int p3, .int p4] T I J P (some (.int x.1)) T x.2.1 J x.2.2 := by
  unfold F_X11_landsOn at hF
  refine ctrP_intro (by decide) (Nat.le_of_ble_eq_true rfl) ?_
  refine r_sub (ls' := [(4, .int p4), (3, .int p3), (2, .int p2), (1, .int p1), (0, .ref 64)]) [4, 3, 2, 1, 0] rfl ?_
  refine r_aload_n dX11_landsOn_0 rfl rfl ?_
  refine r_aload_n dX11_landsOn_1 rfl rfl ?_
  refine r_getP lk_X11_58 (ln_64 hL) (pp_64_12 hL) dX11_landsOn_2 ?_
  refine r_iload_n dX11_landsOn_5 rfl rfl ?_
  refine r_iload_n dX11_landsOn_6 rfl rfl ?_
  refine r_iload_n dX11_landsOn_7 rfl rfl ?_
  refine r_iload dX11_landsOn_8 rfl ?_
  obtain ⟨x1, hx1, hF⟩ := bnd hF
  refine cp_virt_i (As := [.ref 89, .int p1, .int p2, .int p3, .int p4]) mi_X11_begin kw_542 ks_13 kw_540 rfl (by decide) (ln_64 hL) (ok_X11_begin hL (ln_89 hL) hx1) rfl rfl (Nat.le_of_ble_eq_true rfl) ⟨Nat.le_of_ble_eq_true rfl, Nat.le_of_ble_eq_true rfl⟩ ⟨Nat.le_of_ble_eq_true rfl, Nat.le_of_ble_eq_true rfl⟩ dX11_landsOn_10 ?_
  intro hL
  refine r_if_eq (tgt := 33) dX11_landsOn_13 (by decide) (fun h2 => ?_) (fun h2 => ?_)
  · have hF := tw hF h2
    refine r_ldc dX11_landsOn_33 kw_621 ?_
    obtain rfl := Option.some.inj hF
    exact p_ireturn (x := (-2147483648)) rfl rfl dX11_landsOn_35 hL (Nat.le_of_ble_eq_true rfl) (Nat.le_of_ble_eq_true rfl)
  · have hF := fw hF h2
    refine r_aload_n dX11_landsOn_16 rfl rfl ?_
    refine r_getP lk_X11_58 (ln_64 hL) (pp_64_12 hL) dX11_landsOn_17 ?_
    refine r_aload_n dX11_landsOn_20 rfl rfl ?_
    refine r_getP lk_X11_10 (ln_64 hL) (pp_64_0 hL) dX11_landsOn_21 ?_
    refine r_getP lk_X11_120 (ln_65 hL) (pp_65_2 hL) dX11_landsOn_24 ?_
    obtain ⟨x3, hx3, hF⟩ := bnd hF
    refine c_virt_i (As := [.ref 67]) mi_X1_runOut kw_632 kw_633 kw_631 rfl (by decide) (ln_89 hL) (ok_X1_runOut hL (ln_89 hL) (ln_67 hL) (nl_67 hL) hx3) rfl rfl (Nat.le_of_ble_eq_true rfl) ⟨Nat.le_of_ble_eq_true rfl, Nat.le_of_ble_eq_true rfl⟩ ⟨Nat.le_of_ble_eq_true rfl, Nat.le_of_ble_eq_true rfl⟩ dX11_landsOn_27 ?_
    refine r_if_ne (tgt := 36) dX11_landsOn_30 (by decide) (fun h4 => ?_) (fun h4 => ?_)
    · have hF := fw hF h4
      refine r_aload_n dX11_landsOn_36 rfl rfl ?_
      refine r_getP lk_X11_58 (ln_64 hL) (pp_64_12 hL) dX11_landsOn_37 ?_
      obtain ⟨x5, hx5, hF⟩ := bnd hF
      refine c_virt_i (As := []) mi_X1_square kw_642 kw_643 kw_641 rfl (by decide) (ln_89 hL) (ok_X1_square hL (ln_89 hL) hx5) rfl rfl (Nat.le_of_ble_eq_true rfl) ⟨Nat.le_of_ble_eq_true rfl, Nat.le_of_ble_eq_true rfl⟩ ⟨Nat.le_of_ble_eq_true rfl, Nat.le_of_ble_eq_true rfl⟩ dX11_landsOn_40 ?_
      obtain rfl := Option.some.inj hF
      exact p_ireturn (x := x5) rfl rfl dX11_landsOn_43 hL (Nat.le_of_ble_eq_true rfl) (Nat.le_of_ble_eq_true rfl)
    · have hF := tw hF h4
      refine r_ldc dX11_landsOn_33 kw_621 ?_
      obtain rfl := Option.some.inj hF
      exact p_ireturn (x := (-2147483648)) rfl rfl dX11_landsOn_35 hL (Nat.le_of_ble_eq_true rfl) (Nat.le_of_ble_eq_true rfl)
def G_X11_commonDivisor_7 (N : Nat) : Nat → Int32 → Int32 → Int32 → Option (Int32)
  | 0, _, _, _ => none
  | n + 1, u2, u3, u4 => (if 64 ≤ u4 then (some u2) else (if u3 = 0 then (some u2) else (if ¬ u3 = 0 then (letb (u2 - u2 / u3 * u3) (fun y6 : Int32 => (G_X11_commonDivisor_7 N n u3 y6 (u4 + 1)))) else none)))
set_option maxHeartbeats 4000000 in
theorem okG_X11_commonDivisor_7 {E : GE} {T : TM} {I : IM} {J : JM} {P : PM} {N : Nat} {x : Int32} (hL : LOK T P) : ∀ (n : Nat) (u2 : Int32) (u3 : Int32) (u4 : Int32), G_X11_commonDivisor_7 N n u2 u3 u4 = some x → WW E mX11_commonDivisor (RM 0 0 0) (ZM E 0 0 (some (.int x)) T I J P) 0 0 T I J P 7 [(2, .int u2), (3, .int u3), (4, .int u4)] [] := by
  intro n
  induction n with
  | zero =>
    intro u2 u3 u4 hF
    cases hF
  | succ n ih =>
    intro u2 u3 u4 hF
    rw [G_X11_commonDivisor_7] at hF
    refine r_iload dX11_commonDivisor_7 rfl ?_
    refine r_bipush (v := 64) dX11_commonDivisor_9 (by decide) ?_
    refine r_icmp_ge (tgt := 34) dX11_commonDivisor_11 (by decide) (fun h2 => ?_) (fun h2 => ?_)
    · have hF := tw hF h2
      refine r_iload_n dX11_commonDivisor_34 rfl rfl ?_
      obtain rfl := Option.some.inj hF
      exact r_ireturn (x := u2) rfl rfl dX11_commonDivisor_35 (Nat.le_of_ble_eq_true rfl) (Nat.le_of_ble_eq_true rfl)
    · have hF := fw hF h2
      refine r_iload_n dX11_commonDivisor_14 rfl rfl ?_
      refine r_if_eq (tgt := 34) dX11_commonDivisor_15 (by decide) (fun h4 => ?_) (fun h4 => ?_)
      · have hF := tw hF h4
        refine r_iload_n dX11_commonDivisor_34 rfl rfl ?_
        obtain rfl := Option.some.inj hF
        exact r_ireturn (x := u2) rfl rfl dX11_commonDivisor_35 (Nat.le_of_ble_eq_true rfl) (Nat.le_of_ble_eq_true rfl)
      · have hF := fw hF h4
        refine r_iload_n dX11_commonDivisor_18 rfl rfl ?_
        refine r_iload_n dX11_commonDivisor_19 rfl rfl ?_
        obtain ⟨g5, hF⟩ := gd hF
        refine r_irem dX11_commonDivisor_20 g5 ?_
        refine r_letV hF (fun y6 hF => ?_)
        refine r_istore (ls' := [(5, .int y6), (2, .int u2), (3, .int u3), (4, .int u4)]) dX11_commonDivisor_21 (by decide) rfl ?_
        refine r_iload_n dX11_commonDivisor_23 rfl rfl ?_
        refine r_istore_n (ls' := [(2, .int u3), (5, .int y6), (3, .int u3), (4, .int u4)]) dX11_commonDivisor_24 rfl (by decide) rfl ?_
        refine r_iload dX11_commonDivisor_25 rfl ?_
        refine r_istore_n (ls' := [(3, .int y6), (2, .int u3), (5, .int y6), (4, .int u4)]) dX11_commonDivisor_27 rfl (by decide) rfl ?_
        refine r_iinc (v := (u4 + 1)) (ls' := [(4, .int (u4 + 1)), (3, .int y6), (2, .int u3), (5, .int y6)]) dX11_commonDivisor_28 rfl rfl (by decide) rfl ?_
        refine r_goto (tgt := 7) dX11_commonDivisor_31 (by decide) ?_
        refine r_sub (ls' := [(2, .int u3), (3, .int y6), (4, .int (u4 + 1))]) [2, 1, 0] rfl ?_
        exact ih u3 y6 (u4 + 1) hF
def F_X11_commonDivisor (N : Nat) (p1 : Int32) (p2 : Int32) : Option (Int32) := (G_X11_commonDivisor_7 N N p1 p2 0)
set_option maxHeartbeats 4000000 in
theorem ok_X11_commonDivisor {E : GE} {T : TM} {I : IM} {J : JM} {P : PM} {p1 : Int32} {p2 : Int32} {N : Nat} {x : Int32} (hL : LOK T P) (hF : F_X11_commonDivisor N p1 p2 = some x) : Ctr E mX11_commonDivisor 0 0 0 [.int p1, .int p2] T I J P (some (.int x)) T I J P := by
  unfold F_X11_commonDivisor at hF
  refine ctr_intro rfl (by decide +kernel) (Nat.le_of_ble_eq_true rfl) ?_
  refine r_sub (ls' := [(1, .int p2), (0, .int p1)]) [1, 0] rfl ?_
  refine r_iload_n dX11_commonDivisor_0 rfl rfl ?_
  refine r_istore_n (ls' := [(2, .int p1), (1, .int p2), (0, .int p1)]) dX11_commonDivisor_1 rfl (by decide) rfl ?_
  refine r_iload_n dX11_commonDivisor_2 rfl rfl ?_
  refine r_istore_n (ls' := [(3, .int p2), (2, .int p1), (1, .int p2), (0, .int p1)]) dX11_commonDivisor_3 rfl (by decide) rfl ?_
  refine r_iconst (v := 0) dX11_commonDivisor_4 (by decide) ?_
  refine r_istore (ls' := [(4, .int 0), (3, .int p2), (2, .int p1), (1, .int p2), (0, .int p1)]) dX11_commonDivisor_5 (by decide) rfl ?_
  refine r_sub (ls' := [(2, .int p1), (3, .int p2), (4, .int 0)]) [2, 1, 0] rfl ?_
  exact okG_X11_commonDivisor_7 hL   N p1 p2 0 hF
def G_X11_odds_43 (N : Nat) (T : TM) (u1 : Int32) (u2 : Int32) (u3 : Int32) (u4 : Int32) (u5 : Int32) (u6 : Int32) : Nat → Int32 → Int32 → IM → PM → Option (Int32 × IM × PM)
  | 0, _, _, _, _ => none
  | n + 1, u7, u8, Iv, Pv => (if 5 ≤ u8 then ((F_X10_allWeights N Iv 65).bind (fun x8 => ((F_X11_commonDivisor N u7 x8).bind (fun x9 => (if 1 ≤ x9 then (if u6 = 0 then (if ¬ x9 = 0 then (some ((u7 / x9), Iv, Pv)) else none) else (if ¬ x9 = 0 then (some ((x8 / x9), Iv, Pv)) else none)) else (some ((-1), Iv, Pv))))))) else (if inb u8 5 = true then (if (Iv 68 u8.toNatClampNeg) ≤ 0 then (G_X11_odds_43 N T u1 u2 u3 u4 u5 u6 n u7 (u8 + 1) Iv Pv) else ((F_X11_byHand u3 u8).bind (fun x17 => ((F_X11_landsOn N T Iv Pv u1 u2 x17 u4).bind (fun x18 => (if x18.1 = u5 then (if inb u8 5 = true then (letb (u7 + (x18.2.1 68 u8.toNatClampNeg)) (fun y22 : Int32 => (G_X11_odds_43 N T u1 u2 u3 u4 u5 u6 n y22 (u8 + 1) x18.2.1 x18.2.2))) else none) else (G_X11_odds_43 N T u1 u2 u3 u4 u5 u6 n u7 (u8 + 1) x18.2.1 x18.2.2))))))) else none))
set_option maxHeartbeats 4000000 in
theorem okG_X11_odds_43 {E : GE} {T : TM} {J : JM} {N : Nat} {u1 : Int32} {u2 : Int32} {u3 : Int32} {u4 : Int32} {u5 : Int32} {u6 : Int32} {x : Int32 × IM × PM} : ∀ (n : Nat) (u7 : Int32) (u8 : Int32) (Iv : IM) (Pv : PM), LOK T Pv → G_X11_odds_43 N T u1 u2 u3 u4 u5 u6 n u7 u8 Iv Pv = some x → WW E mX11_odds (RM 5 0 0) (ZP E (LOK T x.2.2) 0 0 (some (.int x.1)) T x.2.1 J x.2.2) 0 0 T Iv J Pv 43 [(0, .ref 64), (1, .int u1), (2, .int u2), (3, .int u3), (4, .int u4), (5, .int u5), (6, .int u6), (7, .int u7), (8, .int u8)] [] := by
  intro n
  induction n with
  | zero =>
    intro u7 u8 Iv Pv hL hF
    cases hF
  | succ n ih =>
    intro u7 u8 Iv Pv hL hF
    rw [G_X11_odds_43] at hF
    refine r_iload dX11_odds_43 rfl ?_
    refine r_iconst (v := 5) dX11_odds_45 (by decide) ?_
    refine r_icmp_ge (tgt := 102) dX11_odds_46 (by decide) (fun h7 => ?_) (fun h7 => ?_)
    · have hF := tw hF h7
      refine r_aload_n dX11_odds_102 rfl rfl ?_
      refine r_getP lk_X11_10 (ln_64 hL) (pp_64_0 hL) dX11_odds_103 ?_
      obtain ⟨x8, hx8, hF⟩ := bnd hF
      refine c_virt_i (As := []) mi_X10_allWeights kw_524 kw_525 kw_523 rfl (by decide) (ln_65 hL) (ok_X10_allWeights hL (isw_65) hx8) rfl rfl (Nat.le_of_ble_eq_true rfl) ⟨Nat.le_of_ble_eq_true rfl, Nat.le_of_ble_eq_true rfl⟩ ⟨Nat.le_of_ble_eq_true rfl, Nat.le_of_ble_eq_true rfl⟩ dX11_odds_106 ?_
      refine r_istore (ls' := [(8, .int x8), (0, .ref 64), (1, .int u1), (2, .int u2), (3, .int u3), (4, .int u4), (5, .int u5), (6, .int u6), (7, .int u7)]) dX11_odds_109 (by decide) rfl ?_
      refine r_iload dX11_odds_111 rfl ?_
      refine r_iload dX11_odds_113 rfl ?_
      obtain ⟨x9, hx9, hF⟩ := bnd hF
      refine c_static_i (As := [.int u7, .int x8]) mi_X11_commonDivisor kw_673 kw_672 (ok_X11_commonDivisor hL  hx9) rfl rfl (Nat.le_of_ble_eq_true rfl) ⟨Nat.le_of_ble_eq_true rfl, Nat.le_of_ble_eq_true rfl⟩ ⟨Nat.le_of_ble_eq_true rfl, Nat.le_of_ble_eq_true rfl⟩ dX11_odds_115 ?_
      refine r_istore (ls' := [(9, .int x9), (8, .int x8), (0, .ref 64), (1, .int u1), (2, .int u2), (3, .int u3), (4, .int u4), (5, .int u5), (6, .int u6), (7, .int u7)]) dX11_odds_118 (by decide) rfl ?_
      refine r_iload dX11_odds_120 rfl ?_
      refine r_iconst (v := 1) dX11_odds_122 (by decide) ?_
      refine r_icmp_ge (tgt := 128) dX11_odds_123 (by decide) (fun h10 => ?_) (fun h10 => ?_)
      · have hF := tw hF h10
        refine r_iload dX11_odds_128 rfl ?_
        refine r_if_ne (tgt := 141) dX11_odds_130 (by decide) (fun h11 => ?_) (fun h11 => ?_)
        · have hF := fw hF h11
          refine r_iload dX11_odds_141 rfl ?_
          refine r_iload dX11_odds_143 rfl ?_
          obtain ⟨g12, hF⟩ := gd hF
          refine r_idiv dX11_odds_145 g12 ?_
          obtain rfl := Option.some.inj hF
          exact p_ireturn (x := (x8 / x9)) rfl rfl dX11_odds_146 hL (Nat.le_of_ble_eq_true rfl) (Nat.le_of_ble_eq_true rfl)
        · have hF := tw hF h11
          refine r_iload dX11_odds_133 rfl ?_
          refine r_iload dX11_odds_135 rfl ?_
          obtain ⟨g13, hF⟩ := gd hF
          refine r_idiv dX11_odds_137 g13 ?_
          refine r_goto (tgt := 146) dX11_odds_138 (by decide) ?_
          obtain rfl := Option.some.inj hF
          exact p_ireturn (x := (u7 / x9)) rfl rfl dX11_odds_146 hL (Nat.le_of_ble_eq_true rfl) (Nat.le_of_ble_eq_true rfl)
      · have hF := fw hF h10
        refine r_iconst (v := (-1)) dX11_odds_126 (by decide) ?_
        obtain rfl := Option.some.inj hF
        exact p_ireturn (x := (-1)) rfl rfl dX11_odds_127 hL (Nat.le_of_ble_eq_true rfl) (Nat.le_of_ble_eq_true rfl)
    · have hF := fw hF h7
      refine r_aload_n dX11_odds_49 rfl rfl ?_
      refine r_getP lk_X11_10 (ln_64 hL) (pp_64_0 hL) dX11_odds_50 ?_
      refine r_getP lk_X11_123 (ln_65 hL) (pp_65_3 hL) dX11_odds_53 ?_
      refine r_iload dX11_odds_56 rfl ?_
      obtain ⟨g14, hF⟩ := gd hF
      refine r_iald (ln_68 hL) (by rw [(nl_68 hL)]; exact g14) dX11_odds_58 ?_
      refine r_if_le (tgt := 96) dX11_odds_59 (by decide) (fun h16 => ?_) (fun h16 => ?_)
      · have hF := tw hF h16
        refine r_iinc (v := (u8 + 1)) (ls' := [(8, .int (u8 + 1)), (0, .ref 64), (1, .int u1), (2, .int u2), (3, .int u3), (4, .int u4), (5, .int u5), (6, .int u6), (7, .int u7)]) dX11_odds_96 rfl rfl (by decide) rfl ?_
        refine r_goto (tgt := 43) dX11_odds_99 (by decide) ?_
        refine r_sub (ls' := [(0, .ref 64), (1, .int u1), (2, .int u2), (3, .int u3), (4, .int u4), (5, .int u5), (6, .int u6), (7, .int u7), (8, .int (u8 + 1))]) [1, 2, 3, 4, 5, 6, 7, 8, 0] rfl ?_
        exact ih u7 (u8 + 1) Iv Pv hL hF
      · have hF := fw hF h16
        refine r_aload_n dX11_odds_62 rfl rfl ?_
        refine r_iload_n dX11_odds_63 rfl rfl ?_
        refine r_iload_n dX11_odds_64 rfl rfl ?_
        refine r_iload_n dX11_odds_65 rfl rfl ?_
        refine r_iload dX11_odds_66 rfl ?_
        obtain ⟨x17, hx17, hF⟩ := bnd hF
        refine c_static_i (As := [.int u3, .int u8]) mi_X11_byHand kw_665 kw_664 (ok_X11_byHand hL  hx17) rfl rfl (Nat.le_of_ble_eq_true rfl) ⟨Nat.le_of_ble_eq_true rfl, Nat.le_of_ble_eq_true rfl⟩ ⟨Nat.le_of_ble_eq_true rfl, Nat.le_of_ble_eq_true rfl⟩ dX11_odds_68 ?_
        refine r_iload dX11_odds_71 rfl ?_
        obtain ⟨x18, hx18, hF⟩ := bnd hF
        refine cp_virt_i (As := [.int u1, .int u2, .int x17, .int u4]) mi_X11_landsOn kw_670 ks_16 kw_668 rfl (by decide) (ln_64 hL) (ok_X11_landsOn hL  hx18) rfl rfl (Nat.le_of_ble_eq_true rfl) ⟨Nat.le_of_ble_eq_true rfl, Nat.le_of_ble_eq_true rfl⟩ ⟨Nat.le_of_ble_eq_true rfl, Nat.le_of_ble_eq_true rfl⟩ dX11_odds_73 ?_
        intro hL
        refine r_iload dX11_odds_76 rfl ?_
        refine r_icmp_ne (tgt := 96) dX11_odds_78 (by decide) (fun h20 => ?_) (fun h20 => ?_)
        · have hF := fw hF h20
          refine r_iinc (v := (u8 + 1)) (ls' := [(8, .int (u8 + 1)), (0, .ref 64), (1, .int u1), (2, .int u2), (3, .int u3), (4, .int u4), (5, .int u5), (6, .int u6), (7, .int u7)]) dX11_odds_96 rfl rfl (by decide) rfl ?_
          refine r_goto (tgt := 43) dX11_odds_99 (by decide) ?_
          refine r_sub (ls' := [(0, .ref 64), (1, .int u1), (2, .int u2), (3, .int u3), (4, .int u4), (5, .int u5), (6, .int u6), (7, .int u7), (8, .int (u8 + 1))]) [1, 2, 3, 4, 5, 6, 7, 8, 0] rfl ?_
          exact ih u7 (u8 + 1) x18.2.1 x18.2.2 hL hF
        · have hF := tw hF h20
          refine r_iload dX11_odds_81 rfl ?_
          refine r_aload_n dX11_odds_83 rfl rfl ?_
          refine r_getP lk_X11_10 (ln_64 hL) (pp_64_0 hL) dX11_odds_84 ?_
          refine r_getP lk_X11_123 (ln_65 hL) (pp_65_3 hL) dX11_odds_87 ?_
          refine r_iload dX11_odds_90 rfl ?_
          obtain ⟨g21, hF⟩ := gd hF
          refine r_iald (ln_68 hL) (by rw [(nl_68 hL)]; exact g21) dX11_odds_92 ?_
          refine r_iadd dX11_odds_93 ?_
          refine r_letV hF (fun y22 hF => ?_)
          refine r_istore (ls' := [(7, .int y22), (0, .ref 64), (1, .int u1), (2, .int u2), (3, .int u3), (4, .int u4), (5, .int u5), (6, .int u6), (8, .int u8)]) dX11_odds_94 (by decide) rfl ?_
          refine r_iinc (v := (u8 + 1)) (ls' := [(8, .int (u8 + 1)), (7, .int y22), (0, .ref 64), (1, .int u1), (2, .int u2), (3, .int u3), (4, .int u4), (5, .int u5), (6, .int u6)]) dX11_odds_96 rfl rfl (by decide) rfl ?_
          refine r_goto (tgt := 43) dX11_odds_99 (by decide) ?_
          refine r_sub (ls' := [(0, .ref 64), (1, .int u1), (2, .int u2), (3, .int u3), (4, .int u4), (5, .int u5), (6, .int u6), (7, .int y22), (8, .int (u8 + 1))]) [2, 3, 4, 5, 6, 7, 8, 1, 0] rfl ?_
          exact ih y22 (u8 + 1) x18.2.1 x18.2.2 hL hF
def F_X11_odds (N : Nat) (T : TM) (I : IM) (P : PM) (p1 : Int32) (p2 : Int32) (p3 : Int32) (p4 : Int32) (p5 : Int32) (p6 : Int32) : Option (Int32 × IM × PM) := (if (F_X11_isSquare p5) = 0 then (some ((-1), I, P)) else (if p6 < 0 then (some ((-1), I, P)) else (if 1 < p6 then (some ((-1), I, P)) else ((F_X11_begin T I P 89 p1 p2 p3 p4).bind (fun x4 => (if x4.1 = 0 then (some ((-1), x4.2.1, x4.2.2)) else (G_X11_odds_43 N T p1 p2 p3 p4 p5 p6 N 0 0 x4.2.1 x4.2.2)))))))
set_option maxHeartbeats 4000000 in
theorem ok_X11_odds {E : GE} {T : TM} {I : IM} {J : JM} {P : PM} {p1 : Int32} {p2 : Int32} {p3 : Int32} {p4 : Int32} {p5 : Int32} {p6 : Int32} {N : Nat} {x : Int32 × IM × PM} (hL : LOK T P) (hF : F_X11_odds N T I P p1 p2 p3 p4 p5 p6 = some x) : CtrP E (LOK T x.2.2) mX11_odds 5 0 0 [.ref 64, .int p1, .int p2, .int p3, .int p4, .int p5, .int p6] T I J P (some (.int x.1)) T x.2.1 J x.2.2 := by
  unfold F_X11_odds at hF
  refine ctrP_intro (by decide) (Nat.le_of_ble_eq_true rfl) ?_
  refine r_sub (ls' := [(6, .int p6), (5, .int p5), (4, .int p4), (3, .int p3), (2, .int p2), (1, .int p1), (0, .ref 64)]) [6, 5, 4, 3, 2, 1, 0] rfl ?_
  refine r_iload dX11_odds_0 rfl ?_
  refine c_static_i (As := [.int p5]) mi_X11_isSquare kw_662 kw_661 (ok_X11_isSquare hL  (p1 := p5)) rfl rfl (Nat.le_of_ble_eq_true rfl) ⟨Nat.le_of_ble_eq_true rfl, Nat.le_of_ble_eq_true rfl⟩ ⟨Nat.le_of_ble_eq_true rfl, Nat.le_of_ble_eq_true rfl⟩ dX11_odds_2 ?_
  refine r_if_eq (tgt := 35) dX11_odds_5 (by decide) (fun h1 => ?_) (fun h1 => ?_)
  · have hF := tw hF h1
    refine r_iconst (v := (-1)) dX11_odds_35 (by decide) ?_
    obtain rfl := Option.some.inj hF
    exact p_ireturn (x := (-1)) rfl rfl dX11_odds_36 hL (Nat.le_of_ble_eq_true rfl) (Nat.le_of_ble_eq_true rfl)
  · have hF := fw hF h1
    refine r_iload dX11_odds_8 rfl ?_
    refine r_if_lt (tgt := 35) dX11_odds_10 (by decide) (fun h2 => ?_) (fun h2 => ?_)
    · have hF := tw hF h2
      refine r_iconst (v := (-1)) dX11_odds_35 (by decide) ?_
      obtain rfl := Option.some.inj hF
      exact p_ireturn (x := (-1)) rfl rfl dX11_odds_36 hL (Nat.le_of_ble_eq_true rfl) (Nat.le_of_ble_eq_true rfl)
    · have hF := fw hF h2
      refine r_iload dX11_odds_13 rfl ?_
      refine r_iconst (v := 1) dX11_odds_15 (by decide) ?_
      refine r_icmp_gt (tgt := 35) dX11_odds_16 (by decide) (fun h3 => ?_) (fun h3 => ?_)
      · have hF := tw hF h3
        refine r_iconst (v := (-1)) dX11_odds_35 (by decide) ?_
        obtain rfl := Option.some.inj hF
        exact p_ireturn (x := (-1)) rfl rfl dX11_odds_36 hL (Nat.le_of_ble_eq_true rfl) (Nat.le_of_ble_eq_true rfl)
      · have hF := fw hF h3
        refine r_aload_n dX11_odds_19 rfl rfl ?_
        refine r_aload_n dX11_odds_20 rfl rfl ?_
        refine r_getP lk_X11_58 (ln_64 hL) (pp_64_12 hL) dX11_odds_21 ?_
        refine r_iload_n dX11_odds_24 rfl rfl ?_
        refine r_iload_n dX11_odds_25 rfl rfl ?_
        refine r_iload_n dX11_odds_26 rfl rfl ?_
        refine r_iload dX11_odds_27 rfl ?_
        obtain ⟨x4, hx4, hF⟩ := bnd hF
        refine cp_virt_i (As := [.ref 89, .int p1, .int p2, .int p3, .int p4]) mi_X11_begin kw_542 ks_13 kw_540 rfl (by decide) (ln_64 hL) (ok_X11_begin hL (ln_89 hL) hx4) rfl rfl (Nat.le_of_ble_eq_true rfl) ⟨Nat.le_of_ble_eq_true rfl, Nat.le_of_ble_eq_true rfl⟩ ⟨Nat.le_of_ble_eq_true rfl, Nat.le_of_ble_eq_true rfl⟩ dX11_odds_29 ?_
        intro hL
        refine r_if_ne (tgt := 37) dX11_odds_32 (by decide) (fun h5 => ?_) (fun h5 => ?_)
        · have hF := fw hF h5
          refine r_iconst (v := 0) dX11_odds_37 (by decide) ?_
          refine r_istore (ls' := [(7, .int 0), (6, .int p6), (5, .int p5), (4, .int p4), (3, .int p3), (2, .int p2), (1, .int p1), (0, .ref 64)]) dX11_odds_38 (by decide) rfl ?_
          refine r_iconst (v := 0) dX11_odds_40 (by decide) ?_
          refine r_istore (ls' := [(8, .int 0), (7, .int 0), (6, .int p6), (5, .int p5), (4, .int p4), (3, .int p3), (2, .int p2), (1, .int p1), (0, .ref 64)]) dX11_odds_41 (by decide) rfl ?_
          refine r_sub (ls' := [(0, .ref 64), (1, .int p1), (2, .int p2), (3, .int p3), (4, .int p4), (5, .int p5), (6, .int p6), (7, .int 0), (8, .int 0)]) [8, 7, 6, 5, 4, 3, 2, 1, 0] rfl ?_
          exact okG_X11_odds_43    N 0 0 x4.2.1 x4.2.2 hL hF
        · have hF := tw hF h5
          refine r_iconst (v := (-1)) dX11_odds_35 (by decide) ?_
          obtain rfl := Option.some.inj hF
          exact p_ireturn (x := (-1)) rfl rfl dX11_odds_36 hL (Nat.le_of_ble_eq_true rfl) (Nat.le_of_ble_eq_true rfl)
def G_X11_weightsToward_5 (N : Nat) (I : IM) (u1 : Int32) (u2 : Int32) : Nat → Int32 → Int32 → Option (Int32)
  | 0, _, _ => none
  | n + 1, u3, u4 => (if 5 ≤ u4 then (some u3) else ((F_X11_byHand u1 u4).bind (fun x3 => (if inb x3 36 = true then (if (I 92 x3.toNatClampNeg) = u2 then (if inb u4 5 = true then (letb (u3 + (I 68 u4.toNatClampNeg)) (fun y8 : Int32 => (G_X11_weightsToward_5 N I u1 u2 n y8 (u4 + 1)))) else none) else (G_X11_weightsToward_5 N I u1 u2 n u3 (u4 + 1))) else none))))
set_option maxHeartbeats 4000000 in
theorem okG_X11_weightsToward_5 {E : GE} {T : TM} {I : IM} {J : JM} {P : PM} {N : Nat} {u1 : Int32} {u2 : Int32} {x : Int32} (hL : LOK T P) : ∀ (n : Nat) (u3 : Int32) (u4 : Int32), G_X11_weightsToward_5 N I u1 u2 n u3 u4 = some x → WW E mX11_weightsToward (RM 2 0 0) (ZM E 0 0 (some (.int x)) T I J P) 0 0 T I J P 5 [(0, .ref 64), (1, .int u1), (2, .int u2), (3, .int u3), (4, .int u4)] [] := by
  intro n
  induction n with
  | zero =>
    intro u3 u4 hF
    cases hF
  | succ n ih =>
    intro u3 u4 hF
    rw [G_X11_weightsToward_5] at hF
    refine r_iload dX11_weightsToward_5 rfl ?_
    refine r_iconst (v := 5) dX11_weightsToward_7 (by decide) ?_
    refine r_icmp_ge (tgt := 45) dX11_weightsToward_8 (by decide) (fun h2 => ?_) (fun h2 => ?_)
    · have hF := tw hF h2
      refine r_iload_n dX11_weightsToward_45 rfl rfl ?_
      obtain rfl := Option.some.inj hF
      exact r_ireturn (x := u3) rfl rfl dX11_weightsToward_46 (Nat.le_of_ble_eq_true rfl) (Nat.le_of_ble_eq_true rfl)
    · have hF := fw hF h2
      refine r_aload_n dX11_weightsToward_11 rfl rfl ?_
      refine r_getP lk_X11_68 (ln_64 hL) (pp_64_15 hL) dX11_weightsToward_12 ?_
      refine r_iload_n dX11_weightsToward_15 rfl rfl ?_
      refine r_iload dX11_weightsToward_16 rfl ?_
      obtain ⟨x3, hx3, hF⟩ := bnd hF
      refine c_static_i (As := [.int u1, .int u4]) mi_X11_byHand kw_665 kw_664 (ok_X11_byHand hL  hx3) rfl rfl (Nat.le_of_ble_eq_true rfl) ⟨Nat.le_of_ble_eq_true rfl, Nat.le_of_ble_eq_true rfl⟩ ⟨Nat.le_of_ble_eq_true rfl, Nat.le_of_ble_eq_true rfl⟩ dX11_weightsToward_18 ?_
      obtain ⟨g4, hF⟩ := gd hF
      refine r_iald (ln_92 hL) (by rw [(nl_92 hL)]; exact g4) dX11_weightsToward_21 ?_
      refine r_iload_n dX11_weightsToward_22 rfl rfl ?_
      refine r_icmp_ne (tgt := 39) dX11_weightsToward_23 (by decide) (fun h6 => ?_) (fun h6 => ?_)
      · have hF := fw hF h6
        refine r_iinc (v := (u4 + 1)) (ls' := [(4, .int (u4 + 1)), (0, .ref 64), (1, .int u1), (2, .int u2), (3, .int u3)]) dX11_weightsToward_39 rfl rfl (by decide) rfl ?_
        refine r_goto (tgt := 5) dX11_weightsToward_42 (by decide) ?_
        refine r_sub (ls' := [(0, .ref 64), (1, .int u1), (2, .int u2), (3, .int u3), (4, .int (u4 + 1))]) [1, 2, 3, 4, 0] rfl ?_
        exact ih u3 (u4 + 1) hF
      · have hF := tw hF h6
        refine r_iload_n dX11_weightsToward_26 rfl rfl ?_
        refine r_aload_n dX11_weightsToward_27 rfl rfl ?_
        refine r_getP lk_X11_10 (ln_64 hL) (pp_64_0 hL) dX11_weightsToward_28 ?_
        refine r_getP lk_X11_123 (ln_65 hL) (pp_65_3 hL) dX11_weightsToward_31 ?_
        refine r_iload dX11_weightsToward_34 rfl ?_
        obtain ⟨g7, hF⟩ := gd hF
        refine r_iald (ln_68 hL) (by rw [(nl_68 hL)]; exact g7) dX11_weightsToward_36 ?_
        refine r_iadd dX11_weightsToward_37 ?_
        refine r_letV hF (fun y8 hF => ?_)
        refine r_istore_n (ls' := [(3, .int y8), (0, .ref 64), (1, .int u1), (2, .int u2), (4, .int u4)]) dX11_weightsToward_38 rfl (by decide) rfl ?_
        refine r_iinc (v := (u4 + 1)) (ls' := [(4, .int (u4 + 1)), (3, .int y8), (0, .ref 64), (1, .int u1), (2, .int u2)]) dX11_weightsToward_39 rfl rfl (by decide) rfl ?_
        refine r_goto (tgt := 5) dX11_weightsToward_42 (by decide) ?_
        refine r_sub (ls' := [(0, .ref 64), (1, .int u1), (2, .int u2), (3, .int y8), (4, .int (u4 + 1))]) [2, 3, 4, 1, 0] rfl ?_
        exact ih y8 (u4 + 1) hF
def F_X11_weightsToward (N : Nat) (I : IM) (p1 : Int32) (p2 : Int32) : Option (Int32) := (G_X11_weightsToward_5 N I p1 p2 N 0 0)
set_option maxHeartbeats 4000000 in
theorem ok_X11_weightsToward {E : GE} {T : TM} {I : IM} {J : JM} {P : PM} {p1 : Int32} {p2 : Int32} {N : Nat} {x : Int32} (hL : LOK T P) (hF : F_X11_weightsToward N I p1 p2 = some x) : Ctr E mX11_weightsToward 2 0 0 [.ref 64, .int p1, .int p2] T I J P (some (.int x)) T I J P := by
  unfold F_X11_weightsToward at hF
  refine ctr_intro rfl (by decide +kernel) (Nat.le_of_ble_eq_true rfl) ?_
  refine r_sub (ls' := [(2, .int p2), (1, .int p1), (0, .ref 64)]) [2, 1, 0] rfl ?_
  refine r_iconst (v := 0) dX11_weightsToward_0 (by decide) ?_
  refine r_istore_n (ls' := [(3, .int 0), (2, .int p2), (1, .int p1), (0, .ref 64)]) dX11_weightsToward_1 rfl (by decide) rfl ?_
  refine r_iconst (v := 0) dX11_weightsToward_2 (by decide) ?_
  refine r_istore (ls' := [(4, .int 0), (3, .int 0), (2, .int p2), (1, .int p1), (0, .ref 64)]) dX11_weightsToward_3 (by decide) rfl ?_
  refine r_sub (ls' := [(0, .ref 64), (1, .int p1), (2, .int p2), (3, .int 0), (4, .int 0)]) [4, 3, 2, 1, 0] rfl ?_
  exact okG_X11_weightsToward_5 hL   N 0 0 hF
def G_X11_aim_67 (N : Nat) (T : TM) (I : IM) (P : PM) (u4 : Int32) : Nat → Int32 → Int32 → Int32 → Option (Int32 × IM × PM)
  | 0, _, _, _ => none
  | n + 1, u5, u6, u7 => (if 36 ≤ u7 then (some (u5, I, P)) else ((F_X11_weightsToward N I u7 u4).bind (fun x8 => (if x8 ≤ u6 then (G_X11_aim_67 N T I P u4 n u5 u6 (u7 + 1)) else (G_X11_aim_67 N T I P u4 n u7 x8 (u7 + 1))))))
def G_X11_aim_28 (N : Nat) (T : TM) (u1 : Int32) (u2 : Int32) (u3 : Int32) (u4 : Int32) : Nat → Int32 → IM → PM → Option (Int32 × IM × PM)
  | 0, _, _, _ => none
  | n + 1, u5, Iv, Pv => (if 36 ≤ u5 then (G_X11_aim_67 N T Iv Pv u4 N (-3) 0 0) else ((F_X11_landsOn N T Iv Pv u1 u2 u5 u3).bind (fun x11 => (if inb u5 36 = true then (letb (up2 x11.2.1 92 u5.toNatClampNeg x11.1) (fun I13 : IM => (G_X11_aim_28 N T u1 u2 u3 u4 n (u5 + 1) I13 x11.2.2))) else none))))
set_option maxHeartbeats 4000000 in
theorem okG_X11_aim_67 {E : GE} {T : TM} {I : IM} {J : JM} {P : PM} {N : Nat} {u4 : Int32} {x : Int32 × IM × PM} (hL : LOK T P) : ∀ (n : Nat) (u5 : Int32) (u6 : Int32) (u7 : Int32), G_X11_aim_67 N T I P u4 n u5 u6 u7 = some x → WW E mX11_aim (RM 5 0 0) (ZP E (LOK T x.2.2) 0 0 (some (.int x.1)) T x.2.1 J x.2.2) 0 0 T I J P 67 [(0, .ref 64), (4, .int u4), (5, .int u5), (6, .int u6), (7, .int u7)] [] := by
  intro n
  induction n with
  | zero =>
    intro u5 u6 u7 hF
    cases hF
  | succ n ih =>
    intro u5 u6 u7 hF
    rw [G_X11_aim_67] at hF
    refine r_iload dX11_aim_67 rfl ?_
    refine r_bipush (v := 36) dX11_aim_69 (by decide) ?_
    refine r_icmp_ge (tgt := 105) dX11_aim_71 (by decide) (fun h7 => ?_) (fun h7 => ?_)
    · have hF := tw hF h7
      refine r_iload dX11_aim_105 rfl ?_
      obtain rfl := Option.some.inj hF
      exact p_ireturn (x := u5) rfl rfl dX11_aim_107 hL (Nat.le_of_ble_eq_true rfl) (Nat.le_of_ble_eq_true rfl)
    · have hF := fw hF h7
      refine r_aload_n dX11_aim_74 rfl rfl ?_
      refine r_iload dX11_aim_75 rfl ?_
      refine r_iload dX11_aim_77 rfl ?_
      obtain ⟨x8, hx8, hF⟩ := bnd hF
      refine c_virt_i (As := [.int u7, .int u4]) mi_X11_weightsToward kw_681 ks_17 kw_679 rfl (by decide) (ln_64 hL) (ok_X11_weightsToward hL  hx8) rfl rfl (Nat.le_of_ble_eq_true rfl) ⟨Nat.le_of_ble_eq_true rfl, Nat.le_of_ble_eq_true rfl⟩ ⟨Nat.le_of_ble_eq_true rfl, Nat.le_of_ble_eq_true rfl⟩ dX11_aim_79 ?_
      refine r_istore (ls' := [(8, .int x8), (0, .ref 64), (4, .int u4), (5, .int u5), (6, .int u6), (7, .int u7)]) dX11_aim_82 (by decide) rfl ?_
      refine r_iload dX11_aim_84 rfl ?_
      refine r_iload dX11_aim_86 rfl ?_
      refine r_icmp_le (tgt := 99) dX11_aim_88 (by decide) (fun h10 => ?_) (fun h10 => ?_)
      · have hF := tw hF h10
        refine r_iinc (v := (u7 + 1)) (ls' := [(7, .int (u7 + 1)), (8, .int x8), (0, .ref 64), (4, .int u4), (5, .int u5), (6, .int u6)]) dX11_aim_99 rfl rfl (by decide) rfl ?_
        refine r_goto (tgt := 67) dX11_aim_102 (by decide) ?_
        refine r_sub (ls' := [(0, .ref 64), (4, .int u4), (5, .int u5), (6, .int u6), (7, .int (u7 + 1))]) [2, 3, 4, 5, 0] rfl ?_
        exact ih u5 u6 (u7 + 1) hF
      · have hF := fw hF h10
        refine r_iload dX11_aim_91 rfl ?_
        refine r_istore (ls' := [(6, .int x8), (8, .int x8), (0, .ref 64), (4, .int u4), (5, .int u5), (7, .int u7)]) dX11_aim_93 (by decide) rfl ?_
        refine r_iload dX11_aim_95 rfl ?_
        refine r_istore (ls' := [(5, .int u7), (6, .int x8), (8, .int x8), (0, .ref 64), (4, .int u4), (7, .int u7)]) dX11_aim_97 (by decide) rfl ?_
        refine r_iinc (v := (u7 + 1)) (ls' := [(7, .int (u7 + 1)), (5, .int u7), (6, .int x8), (8, .int x8), (0, .ref 64), (4, .int u4)]) dX11_aim_99 rfl rfl (by decide) rfl ?_
        refine r_goto (tgt := 67) dX11_aim_102 (by decide) ?_
        refine r_sub (ls' := [(0, .ref 64), (4, .int u4), (5, .int u7), (6, .int x8), (7, .int (u7 + 1))]) [4, 5, 1, 2, 0] rfl ?_
        exact ih u7 x8 (u7 + 1) hF
set_option maxHeartbeats 4000000 in
theorem okG_X11_aim_28 {E : GE} {T : TM} {J : JM} {N : Nat} {u1 : Int32} {u2 : Int32} {u3 : Int32} {u4 : Int32} {x : Int32 × IM × PM} : ∀ (n : Nat) (u5 : Int32) (Iv : IM) (Pv : PM), LOK T Pv → G_X11_aim_28 N T u1 u2 u3 u4 n u5 Iv Pv = some x → WW E mX11_aim (RM 5 0 0) (ZP E (LOK T x.2.2) 0 0 (some (.int x.1)) T x.2.1 J x.2.2) 0 0 T Iv J Pv 28 [(0, .ref 64), (1, .int u1), (2, .int u2), (3, .int u3), (4, .int u4), (5, .int u5)] [] := by
  intro n
  induction n with
  | zero =>
    intro u5 Iv Pv hL hF
    cases hF
  | succ n ih =>
    intro u5 Iv Pv hL hF
    rw [G_X11_aim_28] at hF
    refine r_iload dX11_aim_28 rfl ?_
    refine r_bipush (v := 36) dX11_aim_30 (by decide) ?_
    refine r_icmp_ge (tgt := 57) dX11_aim_32 (by decide) (fun h5 => ?_) (fun h5 => ?_)
    · have hF := tw hF h5
      refine r_bipush (v := (-3)) dX11_aim_57 (by decide) ?_
      refine r_istore (ls' := [(5, .int (-3)), (0, .ref 64), (1, .int u1), (2, .int u2), (3, .int u3), (4, .int u4)]) dX11_aim_59 (by decide) rfl ?_
      refine r_iconst (v := 0) dX11_aim_61 (by decide) ?_
      refine r_istore (ls' := [(6, .int 0), (5, .int (-3)), (0, .ref 64), (1, .int u1), (2, .int u2), (3, .int u3), (4, .int u4)]) dX11_aim_62 (by decide) rfl ?_
      refine r_iconst (v := 0) dX11_aim_64 (by decide) ?_
      refine r_istore (ls' := [(7, .int 0), (6, .int 0), (5, .int (-3)), (0, .ref 64), (1, .int u1), (2, .int u2), (3, .int u3), (4, .int u4)]) dX11_aim_65 (by decide) rfl ?_
      refine r_sub (ls' := [(0, .ref 64), (4, .int u4), (5, .int (-3)), (6, .int 0), (7, .int 0)]) [3, 7, 2, 1, 0] rfl ?_
      exact okG_X11_aim_67 hL   N (-3) 0 0 hF
    · have hF := fw hF h5
      refine r_aload_n dX11_aim_35 rfl rfl ?_
      refine r_getP lk_X11_68 (ln_64 hL) (pp_64_15 hL) dX11_aim_36 ?_
      refine r_iload dX11_aim_39 rfl ?_
      refine r_aload_n dX11_aim_41 rfl rfl ?_
      refine r_iload_n dX11_aim_42 rfl rfl ?_
      refine r_iload_n dX11_aim_43 rfl rfl ?_
      refine r_iload dX11_aim_44 rfl ?_
      refine r_iload_n dX11_aim_46 rfl rfl ?_
      obtain ⟨x11, hx11, hF⟩ := bnd hF
      refine cp_virt_i (As := [.int u1, .int u2, .int u5, .int u3]) mi_X11_landsOn kw_670 ks_16 kw_668 rfl (by decide) (ln_64 hL) (ok_X11_landsOn hL  hx11) rfl rfl (Nat.le_of_ble_eq_true rfl) ⟨Nat.le_of_ble_eq_true rfl, Nat.le_of_ble_eq_true rfl⟩ ⟨Nat.le_of_ble_eq_true rfl, Nat.le_of_ble_eq_true rfl⟩ dX11_aim_47 ?_
      intro hL
      obtain ⟨g12, hF⟩ := gd hF
      refine r_iast (ln_92 hL) (by rw [(nl_92 hL)]; exact g12) dX11_aim_50 ?_
      refine r_letI hF (fun I13 hF => ?_)
      refine r_iinc (v := (u5 + 1)) (ls' := [(5, .int (u5 + 1)), (0, .ref 64), (1, .int u1), (2, .int u2), (3, .int u3), (4, .int u4)]) dX11_aim_51 rfl rfl (by decide) rfl ?_
      refine r_goto (tgt := 28) dX11_aim_54 (by decide) ?_
      refine r_sub (ls' := [(0, .ref 64), (1, .int u1), (2, .int u2), (3, .int u3), (4, .int u4), (5, .int (u5 + 1))]) [1, 2, 3, 4, 5, 0] rfl ?_
      exact ih (u5 + 1) I13 x11.2.2 hL hF
def F_X11_aim (N : Nat) (T : TM) (I : IM) (P : PM) (p1 : Int32) (p2 : Int32) (p3 : Int32) (p4 : Int32) : Option (Int32 × IM × PM) := (if (F_X11_isSquare p4) = 0 then (some ((-1), I, P)) else ((F_X11_begin T I P 89 p1 p2 0 p3).bind (fun x2 => (if x2.1 = 0 then (some ((-1), x2.2.1, x2.2.2)) else (G_X11_aim_28 N T p1 p2 p3 p4 N 0 x2.2.1 x2.2.2)))))
set_option maxHeartbeats 4000000 in
theorem ok_X11_aim {E : GE} {T : TM} {I : IM} {J : JM} {P : PM} {p1 : Int32} {p2 : Int32} {p3 : Int32} {p4 : Int32} {N : Nat} {x : Int32 × IM × PM} (hL : LOK T P) (hF : F_X11_aim N T I P p1 p2 p3 p4 = some x) : CtrP E (LOK T x.2.2) mX11_aim 5 0 0 [.ref 64, .int p1, .int p2, .int p3, .int p4] T I J P (some (.int x.1)) T x.2.1 J x.2.2 := by
  unfold F_X11_aim at hF
  refine ctrP_intro (by decide) (Nat.le_of_ble_eq_true rfl) ?_
  refine r_sub (ls' := [(4, .int p4), (3, .int p3), (2, .int p2), (1, .int p1), (0, .ref 64)]) [4, 3, 2, 1, 0] rfl ?_
  refine r_iload dX11_aim_0 rfl ?_
  refine c_static_i (As := [.int p4]) mi_X11_isSquare kw_662 kw_661 (ok_X11_isSquare hL  (p1 := p4)) rfl rfl (Nat.le_of_ble_eq_true rfl) ⟨Nat.le_of_ble_eq_true rfl, Nat.le_of_ble_eq_true rfl⟩ ⟨Nat.le_of_ble_eq_true rfl, Nat.le_of_ble_eq_true rfl⟩ dX11_aim_2 ?_
  refine r_if_eq (tgt := 23) dX11_aim_5 (by decide) (fun h1 => ?_) (fun h1 => ?_)
  · have hF := tw hF h1
    refine r_iconst (v := (-1)) dX11_aim_23 (by decide) ?_
    obtain rfl := Option.some.inj hF
    exact p_ireturn (x := (-1)) rfl rfl dX11_aim_24 hL (Nat.le_of_ble_eq_true rfl) (Nat.le_of_ble_eq_true rfl)
  · have hF := fw hF h1
    refine r_aload_n dX11_aim_8 rfl rfl ?_
    refine r_aload_n dX11_aim_9 rfl rfl ?_
    refine r_getP lk_X11_58 (ln_64 hL) (pp_64_12 hL) dX11_aim_10 ?_
    refine r_iload_n dX11_aim_13 rfl rfl ?_
    refine r_iload_n dX11_aim_14 rfl rfl ?_
    refine r_iconst (v := 0) dX11_aim_15 (by decide) ?_
    refine r_iload_n dX11_aim_16 rfl rfl ?_
    obtain ⟨x2, hx2, hF⟩ := bnd hF
    refine cp_virt_i (As := [.ref 89, .int p1, .int p2, .int 0, .int p3]) mi_X11_begin kw_542 ks_13 kw_540 rfl (by decide) (ln_64 hL) (ok_X11_begin hL (ln_89 hL) hx2) rfl rfl (Nat.le_of_ble_eq_true rfl) ⟨Nat.le_of_ble_eq_true rfl, Nat.le_of_ble_eq_true rfl⟩ ⟨Nat.le_of_ble_eq_true rfl, Nat.le_of_ble_eq_true rfl⟩ dX11_aim_17 ?_
    intro hL
    refine r_if_ne (tgt := 25) dX11_aim_20 (by decide) (fun h3 => ?_) (fun h3 => ?_)
    · have hF := fw hF h3
      refine r_iconst (v := 0) dX11_aim_25 (by decide) ?_
      refine r_istore (ls' := [(5, .int 0), (4, .int p4), (3, .int p3), (2, .int p2), (1, .int p1), (0, .ref 64)]) dX11_aim_26 (by decide) rfl ?_
      refine r_sub (ls' := [(0, .ref 64), (1, .int p1), (2, .int p2), (3, .int p3), (4, .int p4), (5, .int 0)]) [5, 4, 3, 2, 1, 0] rfl ?_
      exact okG_X11_aim_28    N 0 x2.2.1 x2.2.2 hL hF
    · have hF := tw hF h3
      refine r_iconst (v := (-1)) dX11_aim_23 (by decide) ?_
      obtain rfl := Option.some.inj hF
      exact p_ireturn (x := (-1)) rfl rfl dX11_aim_24 hL (Nat.le_of_ble_eq_true rfl) (Nat.le_of_ble_eq_true rfl)
def G_X11_longest_21 (N : Nat) (T : TM) (u1 : Int32) (u2 : Int32) (u3 : Int32) : Nat → Int32 → Int32 → Int32 → IM → PM → Option (Int32 × IM × PM)
  | 0, _, _, _, _, _ => none
  | n + 1, u4, u5, u6, Iv, Pv => (if (Iv 65 1) ≤ u6 then (some (u4, Iv, Pv)) else ((F_X11_begin T Iv Pv 89 u6 u1 u2 u3).bind (fun x4 => ((F_X1_runOut N T x4.2.1 x4.2.2 89 67).bind (fun x5 => (if (x5.2 89 2) ≤ u5 then (G_X11_longest_21 N T u1 u2 u3 n u4 u5 (u6 + 1) x5.2 x4.2.2) else (letb (x5.2 89 2) (fun y8 : Int32 => (G_X11_longest_21 N T u1 u2 u3 n u6 y8 (u6 + 1) x5.2 x4.2.2)))))))))
set_option maxHeartbeats 4000000 in
theorem okG_X11_longest_21 {E : GE} {T : TM} {J : JM} {N : Nat} {u1 : Int32} {u2 : Int32} {u3 : Int32} {x : Int32 × IM × PM} : ∀ (n : Nat) (u4 : Int32) (u5 : Int32) (u6 : Int32) (Iv : IM) (Pv : PM), LOK T Pv → G_X11_longest_21 N T u1 u2 u3 n u4 u5 u6 Iv Pv = some x → WW E mX11_longest (RM 4 0 0) (ZP E (LOK T x.2.2) 0 0 (some (.int x.1)) T x.2.1 J x.2.2) 0 0 T Iv J Pv 21 [(0, .ref 64), (1, .int u1), (2, .int u2), (3, .int u3), (4, .int u4), (5, .int u5), (6, .int u6)] [] := by
  intro n
  induction n with
  | zero =>
    intro u4 u5 u6 Iv Pv hL hF
    cases hF
  | succ n ih =>
    intro u4 u5 u6 Iv Pv hL hF
    rw [G_X11_longest_21] at hF
    refine r_iload dX11_longest_21 rfl ?_
    refine r_aload_n dX11_longest_23 rfl rfl ?_
    refine r_getP lk_X11_10 (ln_64 hL) (pp_64_0 hL) dX11_longest_24 ?_
    refine r_getI lk_X11_94 (ln_65 hL) dX11_longest_27 ?_
    refine r_icmp_ge (tgt := 93) dX11_longest_30 (by decide) (fun h3 => ?_) (fun h3 => ?_)
    · have hF := tw hF h3
      refine r_iload dX11_longest_93 rfl ?_
      obtain rfl := Option.some.inj hF
      exact p_ireturn (x := u4) rfl rfl dX11_longest_95 hL (Nat.le_of_ble_eq_true rfl) (Nat.le_of_ble_eq_true rfl)
    · have hF := fw hF h3
      refine r_aload_n dX11_longest_33 rfl rfl ?_
      refine r_aload_n dX11_longest_34 rfl rfl ?_
      refine r_getP lk_X11_58 (ln_64 hL) (pp_64_12 hL) dX11_longest_35 ?_
      refine r_iload dX11_longest_38 rfl ?_
      refine r_iload_n dX11_longest_40 rfl rfl ?_
      refine r_iload_n dX11_longest_41 rfl rfl ?_
      refine r_iload_n dX11_longest_42 rfl rfl ?_
      obtain ⟨x4, hx4, hF⟩ := bnd hF
      refine cp_virt_i (As := [.ref 89, .int u6, .int u1, .int u2, .int u3]) mi_X11_begin kw_542 ks_13 kw_540 rfl (by decide) (ln_64 hL) (ok_X11_begin hL (ln_89 hL) hx4) rfl rfl (Nat.le_of_ble_eq_true rfl) ⟨Nat.le_of_ble_eq_true rfl, Nat.le_of_ble_eq_true rfl⟩ ⟨Nat.le_of_ble_eq_true rfl, Nat.le_of_ble_eq_true rfl⟩ dX11_longest_43 ?_
      intro hL
      refine r_pop dX11_longest_46 rfl ?_
      refine r_aload_n dX11_longest_47 rfl rfl ?_
      refine r_getP lk_X11_58 (ln_64 hL) (pp_64_12 hL) dX11_longest_48 ?_
      refine r_aload_n dX11_longest_51 rfl rfl ?_
      refine r_getP lk_X11_10 (ln_64 hL) (pp_64_0 hL) dX11_longest_52 ?_
      refine r_getP lk_X11_120 (ln_65 hL) (pp_65_2 hL) dX11_longest_55 ?_
      obtain ⟨x5, hx5, hF⟩ := bnd hF
      refine c_virt_i (As := [.ref 67]) mi_X1_runOut kw_632 kw_633 kw_631 rfl (by decide) (ln_89 hL) (ok_X1_runOut hL (ln_89 hL) (ln_67 hL) (nl_67 hL) hx5) rfl rfl (Nat.le_of_ble_eq_true rfl) ⟨Nat.le_of_ble_eq_true rfl, Nat.le_of_ble_eq_true rfl⟩ ⟨Nat.le_of_ble_eq_true rfl, Nat.le_of_ble_eq_true rfl⟩ dX11_longest_58 ?_
      refine r_pop dX11_longest_61 rfl ?_
      refine r_aload_n dX11_longest_62 rfl rfl ?_
      refine r_getP lk_X11_58 (ln_64 hL) (pp_64_12 hL) dX11_longest_63 ?_
      refine r_getI lk_X11_156 (ln_89 hL) dX11_longest_66 ?_
      refine r_iload dX11_longest_69 rfl ?_
      refine r_icmp_le (tgt := 87) dX11_longest_71 (by decide) (fun h7 => ?_) (fun h7 => ?_)
      · have hF := tw hF h7
        refine r_iinc (v := (u6 + 1)) (ls' := [(6, .int (u6 + 1)), (0, .ref 64), (1, .int u1), (2, .int u2), (3, .int u3), (4, .int u4), (5, .int u5)]) dX11_longest_87 rfl rfl (by decide) rfl ?_
        refine r_goto (tgt := 21) dX11_longest_90 (by decide) ?_
        refine r_sub (ls' := [(0, .ref 64), (1, .int u1), (2, .int u2), (3, .int u3), (4, .int u4), (5, .int u5), (6, .int (u6 + 1))]) [1, 2, 3, 4, 5, 6, 0] rfl ?_
        exact ih u4 u5 (u6 + 1) x5.2 x4.2.2 hL hF
      · have hF := fw hF h7
        refine r_aload_n dX11_longest_74 rfl rfl ?_
        refine r_getP lk_X11_58 (ln_64 hL) (pp_64_12 hL) dX11_longest_75 ?_
        refine r_getI lk_X11_156 (ln_89 hL) dX11_longest_78 ?_
        refine r_letV hF (fun y8 hF => ?_)
        refine r_istore (ls' := [(5, .int y8), (0, .ref 64), (1, .int u1), (2, .int u2), (3, .int u3), (4, .int u4), (6, .int u6)]) dX11_longest_81 (by decide) rfl ?_
        refine r_iload dX11_longest_83 rfl ?_
        refine r_istore (ls' := [(4, .int u6), (5, .int y8), (0, .ref 64), (1, .int u1), (2, .int u2), (3, .int u3), (6, .int u6)]) dX11_longest_85 (by decide) rfl ?_
        refine r_iinc (v := (u6 + 1)) (ls' := [(6, .int (u6 + 1)), (4, .int u6), (5, .int y8), (0, .ref 64), (1, .int u1), (2, .int u2), (3, .int u3)]) dX11_longest_87 rfl rfl (by decide) rfl ?_
        refine r_goto (tgt := 21) dX11_longest_90 (by decide) ?_
        refine r_sub (ls' := [(0, .ref 64), (1, .int u1), (2, .int u2), (3, .int u3), (4, .int u6), (5, .int y8), (6, .int (u6 + 1))]) [3, 4, 5, 6, 1, 2, 0] rfl ?_
        exact ih u6 y8 (u6 + 1) x5.2 x4.2.2 hL hF
def F_X11_longest (N : Nat) (T : TM) (I : IM) (P : PM) (p1 : Int32) (p2 : Int32) (p3 : Int32) : Option (Int32 × IM × PM) := (if (F_X11_isLettingGo p1 p2 p3) = 0 then (some ((-1), I, P)) else (G_X11_longest_21 N T p1 p2 p3 N (-3) 0 0 I P))
set_option maxHeartbeats 4000000 in
theorem ok_X11_longest {E : GE} {T : TM} {I : IM} {J : JM} {P : PM} {p1 : Int32} {p2 : Int32} {p3 : Int32} {N : Nat} {x : Int32 × IM × PM} (hL : LOK T P) (hF : F_X11_longest N T I P p1 p2 p3 = some x) : CtrP E (LOK T x.2.2) mX11_longest 4 0 0 [.ref 64, .int p1, .int p2, .int p3] T I J P (some (.int x.1)) T x.2.1 J x.2.2 := by
  unfold F_X11_longest at hF
  refine ctrP_intro (by decide) (Nat.le_of_ble_eq_true rfl) ?_
  refine r_sub (ls' := [(3, .int p3), (2, .int p2), (1, .int p1), (0, .ref 64)]) [3, 2, 1, 0] rfl ?_
  refine r_iload_n dX11_longest_0 rfl rfl ?_
  refine r_iload_n dX11_longest_1 rfl rfl ?_
  refine r_iload_n dX11_longest_2 rfl rfl ?_
  refine c_static_i (As := [.int p1, .int p2, .int p3]) mi_X11_isLettingGo kw_545 kw_544 (ok_X11_isLettingGo hL  (p1 := p1) (p2 := p2) (p3 := p3)) rfl rfl (Nat.le_of_ble_eq_true rfl) ⟨Nat.le_of_ble_eq_true rfl, Nat.le_of_ble_eq_true rfl⟩ ⟨Nat.le_of_ble_eq_true rfl, Nat.le_of_ble_eq_true rfl⟩ dX11_longest_3 ?_
  refine r_if_ne (tgt := 11) dX11_longest_6 (by decide) (fun h1 => ?_) (fun h1 => ?_)
  · have hF := fw hF h1
    refine r_bipush (v := (-3)) dX11_longest_11 (by decide) ?_
    refine r_istore (ls' := [(4, .int (-3)), (3, .int p3), (2, .int p2), (1, .int p1), (0, .ref 64)]) dX11_longest_13 (by decide) rfl ?_
    refine r_iconst (v := 0) dX11_longest_15 (by decide) ?_
    refine r_istore (ls' := [(5, .int 0), (4, .int (-3)), (3, .int p3), (2, .int p2), (1, .int p1), (0, .ref 64)]) dX11_longest_16 (by decide) rfl ?_
    refine r_iconst (v := 0) dX11_longest_18 (by decide) ?_
    refine r_istore (ls' := [(6, .int 0), (5, .int 0), (4, .int (-3)), (3, .int p3), (2, .int p2), (1, .int p1), (0, .ref 64)]) dX11_longest_19 (by decide) rfl ?_
    refine r_sub (ls' := [(0, .ref 64), (1, .int p1), (2, .int p2), (3, .int p3), (4, .int (-3)), (5, .int 0), (6, .int 0)]) [6, 5, 4, 3, 2, 1, 0] rfl ?_
    exact okG_X11_longest_21    N (-3) 0 0 I P hL hF
  · have hF := tw hF h1
    refine r_iconst (v := (-1)) dX11_longest_9 (by decide) ?_
    obtain rfl := Option.some.inj hF
    exact p_ireturn (x := (-1)) rfl rfl dX11_longest_10 hL (Nat.le_of_ble_eq_true rfl) (Nat.le_of_ble_eq_true rfl)
def F_X11_sheetAt (P : PM) (p1 : Int32) : Option (Option Nat) := (if p1 < 0 then (some none) else (if 4 ≤ p1 then (some none) else (osel (P 84 p1.toNatClampNeg) (some none) (fun c5 => (some (some c5))))))
set_option maxHeartbeats 4000000 in
theorem ok_X11_sheetAt {E : GE} {T : TM} {I : IM} {J : JM} {P : PM} {p1 : Int32} {x : Option Nat} (hL : LOK T P) (hF : F_X11_sheetAt P p1 = some x) : Ctr E mX11_sheetAt 0 0 0 [.ref 64, .int p1] T I J P (some (rv x)) T I J P := by
  unfold F_X11_sheetAt at hF
  refine ctr_intro rfl (by decide +kernel) (Nat.le_of_ble_eq_true rfl) ?_
  refine r_sub (ls' := [(1, .int p1), (0, .ref 64)]) [1, 0] rfl ?_
  refine r_iload_n dX11_sheetAt_0 rfl rfl ?_
  refine r_if_lt (tgt := 18) dX11_sheetAt_1 (by decide) (fun h2 => ?_) (fun h2 => ?_)
  · have hF := tw hF h2
    refine r_null dX11_sheetAt_18 ?_
    obtain rfl := Option.some.inj hF
    exact r_areturnN rfl dX11_sheetAt_19 (Nat.le_of_ble_eq_true rfl) (Nat.le_of_ble_eq_true rfl)
  · have hF := fw hF h2
    refine r_iload_n dX11_sheetAt_4 rfl rfl ?_
    refine r_iconst (v := 4) dX11_sheetAt_5 (by decide) ?_
    refine r_icmp_ge (tgt := 18) dX11_sheetAt_6 (by decide) (fun h4 => ?_) (fun h4 => ?_)
    · have hF := tw hF h4
      refine r_null dX11_sheetAt_18 ?_
      obtain rfl := Option.some.inj hF
      exact r_areturnN rfl dX11_sheetAt_19 (Nat.le_of_ble_eq_true rfl) (Nat.le_of_ble_eq_true rfl)
    · have hF := fw hF h4
      refine r_aload_n dX11_sheetAt_9 rfl rfl ?_
      refine r_getP lk_X11_38 (ln_64 hL) (pp_64_6 hL) dX11_sheetAt_10 ?_
      refine r_iload_n dX11_sheetAt_13 rfl rfl ?_
      rcases q6 : (P 84 p1.toNatClampNeg) with _ | c5
      · have hF := (osel_n q6).symm.trans hF
        refine r_aaldN (ln_84 hL) (Or.inr rfl) (by rw [(nl_84 hL)]; exact inb_ge h2 h4 (by decide)) dX11_sheetAt_14 q6 ?_
        refine r_goto (tgt := 19) dX11_sheetAt_15 (by decide) ?_
        obtain rfl := Option.some.inj hF
        exact r_areturnN rfl dX11_sheetAt_19 (Nat.le_of_ble_eq_true rfl) (Nat.le_of_ble_eq_true rfl)
      · have hF := (osel_s q6).symm.trans hF
        have hc5 : isS c5 := sh_of (i := p1) hL (by exact inb_ge h2 h4 (by decide)) q6
        refine r_aald (ln_84 hL) (Or.inr rfl) (by rw [(nl_84 hL)]; exact inb_ge h2 h4 (by decide)) dX11_sheetAt_14 q6 ?_
        refine r_goto (tgt := 19) dX11_sheetAt_15 (by decide) ?_
        obtain rfl := Option.some.inj hF
        exact r_areturn rfl dX11_sheetAt_19 (Nat.le_of_ble_eq_true rfl) (Nat.le_of_ble_eq_true rfl)
def F_X11_filmRefusal (I : IM) (s1 : Option Nat) : Int32 := (osel s1 (-1) (fun z1 => (if (I z1 0) = (-1) then (-11) else (if (I z1 0) = 2 then 0 else (-13)))))
set_option maxHeartbeats 4000000 in
theorem ok_X11_filmRefusal {E : GE} {T : TM} {I : IM} {J : JM} {P : PM} {s1 : Option Nat} (hL : LOK T P) (hs1 : ∀ z, s1 = some z → isS z) : Ctr E mX11_filmRefusal 0 0 0 [(rv s1)] T I J P (some (.int (F_X11_filmRefusal I s1))) T I J P := by
  generalize hF : F_X11_filmRefusal I s1 = r
  unfold F_X11_filmRefusal at hF
  refine ctr_intro rfl (by decide +kernel) (by cases s1 <;> exact Nat.le_of_ble_eq_true rfl) ?_
  refine r_sub (ls' := [(0, rv s1)]) [0] rfl ?_
  rcases s1 with _ | z1
  · have hF := (osel_n rfl).symm.trans hF
    refine r_aload_nN dX11_filmRefusal_0 rfl rfl ?_
    refine r_ifnonnullN dX11_filmRefusal_1 ?_
    refine r_iconst (v := (-1)) dX11_filmRefusal_4 (by decide) ?_
    obtain rfl := hF
    exact r_ireturn (x := (-1)) rfl rfl dX11_filmRefusal_5 (Nat.le_of_ble_eq_true rfl) (Nat.le_of_ble_eq_true rfl)
  · have hF := (osel_s rfl).symm.trans hF
    refine r_aload_n dX11_filmRefusal_0 rfl rfl ?_
    refine r_ifnonnull (tgt := 6) dX11_filmRefusal_1 (by decide) ?_
    refine r_aload_n dX11_filmRefusal_6 rfl rfl ?_
    refine r_getI lk_X11_261 (sn_0 hL (hs1 _ rfl)) dX11_filmRefusal_7 ?_
    refine r_iconst (v := (-1)) dX11_filmRefusal_10 (by decide) ?_
    refine r_icmp_ne (tgt := 17) dX11_filmRefusal_11 (by decide) (fun h2 => ?_) (fun h2 => ?_)
    · have hF := fw hF h2
      refine r_aload_n dX11_filmRefusal_17 rfl rfl ?_
      refine r_getI lk_X11_261 (sn_0 hL (hs1 _ rfl)) dX11_filmRefusal_18 ?_
      refine r_iconst (v := 2) dX11_filmRefusal_21 (by decide) ?_
      refine r_icmp_ne (tgt := 29) dX11_filmRefusal_22 (by decide) (fun h3 => ?_) (fun h3 => ?_)
      · have hF := fw hF h3
        refine r_bipush (v := (-13)) dX11_filmRefusal_29 (by decide) ?_
        obtain rfl := hF
        exact r_ireturn (x := (-13)) rfl rfl dX11_filmRefusal_31 (Nat.le_of_ble_eq_true rfl) (Nat.le_of_ble_eq_true rfl)
      · have hF := tw hF h3
        refine r_iconst (v := 0) dX11_filmRefusal_25 (by decide) ?_
        refine r_goto (tgt := 31) dX11_filmRefusal_26 (by decide) ?_
        obtain rfl := hF
        exact r_ireturn (x := 0) rfl rfl dX11_filmRefusal_31 (Nat.le_of_ble_eq_true rfl) (Nat.le_of_ble_eq_true rfl)
    · have hF := tw hF h2
      refine r_bipush (v := (-11)) dX11_filmRefusal_14 (by decide) ?_
      obtain rfl := hF
      exact r_ireturn (x := (-11)) rfl rfl dX11_filmRefusal_16 (Nat.le_of_ble_eq_true rfl) (Nat.le_of_ble_eq_true rfl)
def G_X11_missOf_5 (N : Nat) (T : TM) (J : JM) (P : PM) (a1 : Nat) (s2 : Nat) (b3 : Nat) : Nat → Int64 → Int32 → IM → Option (Int32 × IM)
  | 0, _, _, _ => none
  | n + 1, u3, u5, Iv => (if (Iv s2 1) ≤ u5 then (some ((Int64.toInt32 (if 999999999 < u3 then 999999999 else u3)), Iv)) else (if (F_X1_landed Iv a1) = 0 then ((F_X1_step T Iv P a1 b3).bind (fun x5 => (if inb u5 40 = true then (letb (u3 + (if 0 < ((J (s2 + 1) u5.toNatClampNeg) - (Int32.toInt64 (x5 a1 3))) then ((J (s2 + 1) u5.toNatClampNeg) - (Int32.toInt64 (x5 a1 3))) else -((J (s2 + 1) u5.toNatClampNeg) - (Int32.toInt64 (x5 a1 3))))) (fun y7 : Int64 => (G_X11_missOf_5 N T J P a1 s2 b3 n y7 (u5 + 1) x5))) else none))) else (some ((Int64.toInt32 (if 999999999 < u3 then 999999999 else u3)), Iv))))
set_option maxHeartbeats 4000000 in
theorem okG_X11_missOf_5 {E : GE} {T : TM} {J : JM} {P : PM} {a1 : Nat} {s2 : Nat} {b3 : Nat} {N : Nat} {x : Int32 × IM} (hL : LOK T P) (ha1 : IS T a1 1) (hs2 : isS s2) (hb3 : IS T b3 13) (nb3 : T.2.2 b3 = 6) : ∀ (n : Nat) (u3 : Int64) (u5 : Int32) (Iv : IM), G_X11_missOf_5 N T J P a1 s2 b3 n u3 u5 Iv = some x → WW E mX11_missOf (RM 3 0 0) (ZM E 0 0 (some (.int x.1)) T x.2 J P) 0 0 T Iv J P 5 [(0, .ref a1), (1, .ref s2), (2, .ref b3), (3, .long u3), (5, .int u5)] [] := by
  intro n
  induction n with
  | zero =>
    intro u3 u5 Iv hF
    cases hF
  | succ n ih =>
    intro u3 u5 Iv hF
    rw [G_X11_missOf_5] at hF
    refine r_iload dX11_missOf_5 rfl ?_
    refine r_aload_n dX11_missOf_7 rfl rfl ?_
    refine r_getI lk_X11_263 (sn_0 hL hs2) dX11_missOf_8 ?_
    refine r_icmp_ge (tgt := 51) dX11_missOf_11 (by decide) (fun h2 => ?_) (fun h2 => ?_)
    · have hF := tw hF h2
      refine r_lload_n dX11_missOf_51 rfl rfl ?_
      refine r_ldc2 dX11_missOf_52 kw_706 ?_
      refine r_minL kw_707 kw_708 kw_13 kw_709 ⟨Nat.le_of_ble_eq_true rfl, Nat.le_of_ble_eq_true rfl, Nat.le_of_ble_eq_true rfl, Nat.le_of_ble_eq_true rfl⟩ dX11_missOf_55 ?_
      refine r_l2i dX11_missOf_58 ?_
      obtain rfl := Option.some.inj hF
      exact r_ireturn (x := (Int64.toInt32 (if 999999999 < u3 then 999999999 else u3))) rfl rfl dX11_missOf_59 (Nat.le_of_ble_eq_true rfl) (Nat.le_of_ble_eq_true rfl)
    · have hF := fw hF h2
      refine r_aload_n dX11_missOf_14 rfl rfl ?_
      refine c_virt_i (As := []) mi_X1_landed kw_556 kw_557 kw_555 rfl (by decide) ha1 (ok_X1_landed hL ha1 (a := a1)) rfl rfl (Nat.le_of_ble_eq_true rfl) ⟨Nat.le_of_ble_eq_true rfl, Nat.le_of_ble_eq_true rfl⟩ ⟨Nat.le_of_ble_eq_true rfl, Nat.le_of_ble_eq_true rfl⟩ dX11_missOf_15 ?_
      refine r_if_ne (tgt := 51) dX11_missOf_18 (by decide) (fun h4 => ?_) (fun h4 => ?_)
      · have hF := fw hF h4
        refine r_lload_n dX11_missOf_51 rfl rfl ?_
        refine r_ldc2 dX11_missOf_52 kw_706 ?_
        refine r_minL kw_707 kw_708 kw_13 kw_709 ⟨Nat.le_of_ble_eq_true rfl, Nat.le_of_ble_eq_true rfl, Nat.le_of_ble_eq_true rfl, Nat.le_of_ble_eq_true rfl⟩ dX11_missOf_55 ?_
        refine r_l2i dX11_missOf_58 ?_
        obtain rfl := Option.some.inj hF
        exact r_ireturn (x := (Int64.toInt32 (if 999999999 < u3 then 999999999 else u3))) rfl rfl dX11_missOf_59 (Nat.le_of_ble_eq_true rfl) (Nat.le_of_ble_eq_true rfl)
      · have hF := tw hF h4
        refine r_aload_n dX11_missOf_21 rfl rfl ?_
        refine r_aload_n dX11_missOf_22 rfl rfl ?_
        obtain ⟨x5, hx5, hF⟩ := bnd hF
        refine c_virt_v (As := [.ref b3]) mi_X1_step kw_560 kw_561 kw_559 rfl (by decide) ha1 (ok_X1_step hL ha1 hb3 nb3 hx5) rfl rfl (Nat.le_of_ble_eq_true rfl) ⟨Nat.le_of_ble_eq_true rfl, Nat.le_of_ble_eq_true rfl⟩ ⟨Nat.le_of_ble_eq_true rfl, Nat.le_of_ble_eq_true rfl⟩ dX11_missOf_23 ?_
        refine r_lload_n dX11_missOf_26 rfl rfl ?_
        refine r_aload_n dX11_missOf_27 rfl rfl ?_
        refine r_getP lk_X11_264 (sn_0 hL hs2) (sp_2 hL hs2) dX11_missOf_28 ?_
        refine r_iload dX11_missOf_31 rfl ?_
        obtain ⟨g6, hF⟩ := gd hF
        refine r_lald (sn_1 hL hs2) (by rw [(sl_1 hL hs2)]; exact g6) dX11_missOf_33 ?_
        refine r_aload_n dX11_missOf_34 rfl rfl ?_
        refine r_getI lk_X11_159 ha1 dX11_missOf_35 ?_
        refine r_i2l dX11_missOf_38 ?_
        refine r_lsub dX11_missOf_39 ?_
        refine r_absL kw_703 kw_704 kw_13 kw_705 ⟨Nat.le_of_ble_eq_true rfl, Nat.le_of_ble_eq_true rfl, Nat.le_of_ble_eq_true rfl, Nat.le_of_ble_eq_true rfl⟩ dX11_missOf_40 ?_
        refine r_ladd dX11_missOf_43 ?_
        refine r_letL hF (fun y7 hF => ?_)
        refine r_lstore_n (ls' := [(3, .long y7), (0, .ref a1), (1, .ref s2), (2, .ref b3), (5, .int u5)]) dX11_missOf_44 rfl (by decide) rfl ?_
        refine r_iinc (v := (u5 + 1)) (ls' := [(5, .int (u5 + 1)), (3, .long y7), (0, .ref a1), (1, .ref s2), (2, .ref b3)]) dX11_missOf_45 rfl rfl (by decide) rfl ?_
        refine r_goto (tgt := 5) dX11_missOf_48 (by decide) ?_
        refine r_sub (ls' := [(0, .ref a1), (1, .ref s2), (2, .ref b3), (3, .long y7), (5, .int (u5 + 1))]) [2, 3, 4, 1, 0] rfl ?_
        exact ih y7 (u5 + 1) x5 hF
def F_X11_missOf (N : Nat) (T : TM) (I : IM) (J : JM) (P : PM) (a1 : Nat) (s2 : Nat) (b3 : Nat) : Option (Int32 × IM) := (G_X11_missOf_5 N T J P a1 s2 b3 N 0 0 I)
set_option maxHeartbeats 4000000 in
theorem ok_X11_missOf {E : GE} {T : TM} {I : IM} {J : JM} {P : PM} {a1 : Nat} {s2 : Nat} {b3 : Nat} {N : Nat} {x : Int32 × IM} (hL : LOK T P) (ha1 : IS T a1 1) (hs2 : isS s2) (hb3 : IS T b3 13) (nb3 : T.2.2 b3 = 6) (hF : F_X11_missOf N T I J P a1 s2 b3 = some x) : Ctr E mX11_missOf 3 0 0 [.ref a1, .ref s2, .ref b3] T I J P (some (.int x.1)) T x.2 J P := by
  unfold F_X11_missOf at hF
  refine ctr_intro rfl (by decide +kernel) (Nat.le_of_ble_eq_true rfl) ?_
  refine r_sub (ls' := [(2, .ref b3), (1, .ref s2), (0, .ref a1)]) [2, 1, 0] rfl ?_
  refine r_lconst (v := 0) dX11_missOf_0 (by decide) ?_
  refine r_lstore_n (ls' := [(3, .long 0), (2, .ref b3), (1, .ref s2), (0, .ref a1)]) dX11_missOf_1 rfl (by decide) rfl ?_
  refine r_iconst (v := 0) dX11_missOf_2 (by decide) ?_
  refine r_istore (ls' := [(5, .int 0), (3, .long 0), (2, .ref b3), (1, .ref s2), (0, .ref a1)]) dX11_missOf_3 (by decide) rfl ?_
  refine r_sub (ls' := [(0, .ref a1), (1, .ref s2), (2, .ref b3), (3, .long 0), (5, .int 0)]) [4, 3, 2, 1, 0] rfl ?_
  exact okG_X11_missOf_5 hL ha1 hs2 hb3 nb3  N 0 0 I hF
def G_X11_fit_86 (N : Nat) (T : TM) (J : JM) (s7 : Nat) (u1 : Int32) (u2 : Int32) (u3 : Int32) (u4 : Int32) (u6 : Int32) : Nat → Int32 → Int32 → Int32 → IM → PM → Option (Int32 × IM × PM)
  | 0, _, _, _, _, _ => none
  | n + 1, u9, u10, u11, Iv, Pv => (if 63 < u11 then (some (u9, Iv, Pv)) else (if inb u6 6 = true then (letb (up2 Iv 91 u6.toNatClampNeg u11) (fun I15 : IM => ((F_X11_begin T I15 Pv 89 u1 u2 u3 u4).bind (fun x16 => ((F_X11_missOf N T x16.2.1 J x16.2.2 89 s7 91).bind (fun x17 => (if u10 ≤ x17.1 then (G_X11_fit_86 N T J s7 u1 u2 u3 u4 u6 n u9 u10 (u11 + 1) x17.2 x16.2.2) else (G_X11_fit_86 N T J s7 u1 u2 u3 u4 u6 n u11 x17.1 (u11 + 1) x17.2 x16.2.2)))))))) else none))
set_option maxHeartbeats 4000000 in
theorem okG_X11_fit_86 {E : GE} {T : TM} {J : JM} {s7 : Nat} {N : Nat} {u1 : Int32} {u2 : Int32} {u3 : Int32} {u4 : Int32} {u6 : Int32} {x : Int32 × IM × PM} (hs7 : isS s7) : ∀ (n : Nat) (u9 : Int32) (u10 : Int32) (u11 : Int32) (Iv : IM) (Pv : PM), LOK T Pv → G_X11_fit_86 N T J s7 u1 u2 u3 u4 u6 n u9 u10 u11 Iv Pv = some x → WW E mX11_fit (RM 4 0 0) (ZP E (LOK T x.2.2) 0 0 (some (.int x.1)) T x.2.1 J x.2.2) 0 0 T Iv J Pv 86 [(0, .ref 64), (1, .int u1), (2, .int u2), (3, .int u3), (4, .int u4), (6, .int u6), (7, .ref s7), (9, .int u9), (10, .int u10), (11, .int u11)] [] := by
  intro n
  induction n with
  | zero =>
    intro u9 u10 u11 Iv Pv hL hF
    cases hF
  | succ n ih =>
    intro u9 u10 u11 Iv Pv hL hF
    rw [G_X11_fit_86] at hF
    refine r_iload dX11_fit_86 rfl ?_
    refine r_bipush (v := 63) dX11_fit_88 (by decide) ?_
    refine r_icmp_gt (tgt := 152) dX11_fit_90 (by decide) (fun h13 => ?_) (fun h13 => ?_)
    · have hF := tw hF h13
      refine r_iload dX11_fit_152 rfl ?_
      obtain rfl := Option.some.inj hF
      exact p_ireturn (x := u9) rfl rfl dX11_fit_154 hL (Nat.le_of_ble_eq_true rfl) (Nat.le_of_ble_eq_true rfl)
    · have hF := fw hF h13
      refine r_aload_n dX11_fit_93 rfl rfl ?_
      refine r_getP lk_X11_65 (ln_64 hL) (pp_64_14 hL) dX11_fit_94 ?_
      refine r_iload dX11_fit_97 rfl ?_
      refine r_iload dX11_fit_99 rfl ?_
      obtain ⟨g14, hF⟩ := gd hF
      refine r_iast (ln_91 hL) (by rw [(nl_91 hL)]; exact g14) dX11_fit_101 ?_
      refine r_letI hF (fun I15 hF => ?_)
      refine r_aload_n dX11_fit_102 rfl rfl ?_
      refine r_aload_n dX11_fit_103 rfl rfl ?_
      refine r_getP lk_X11_58 (ln_64 hL) (pp_64_12 hL) dX11_fit_104 ?_
      refine r_iload_n dX11_fit_107 rfl rfl ?_
      refine r_iload_n dX11_fit_108 rfl rfl ?_
      refine r_iload_n dX11_fit_109 rfl rfl ?_
      refine r_iload dX11_fit_110 rfl ?_
      obtain ⟨x16, hx16, hF⟩ := bnd hF
      refine cp_virt_i (As := [.ref 89, .int u1, .int u2, .int u3, .int u4]) mi_X11_begin kw_542 ks_13 kw_540 rfl (by decide) (ln_64 hL) (ok_X11_begin hL (ln_89 hL) hx16) rfl rfl (Nat.le_of_ble_eq_true rfl) ⟨Nat.le_of_ble_eq_true rfl, Nat.le_of_ble_eq_true rfl⟩ ⟨Nat.le_of_ble_eq_true rfl, Nat.le_of_ble_eq_true rfl⟩ dX11_fit_112 ?_
      intro hL
      refine r_pop dX11_fit_115 rfl ?_
      refine r_aload_n dX11_fit_116 rfl rfl ?_
      refine r_getP lk_X11_58 (ln_64 hL) (pp_64_12 hL) dX11_fit_117 ?_
      refine r_aload dX11_fit_120 rfl ?_
      refine r_aload_n dX11_fit_122 rfl rfl ?_
      refine r_getP lk_X11_65 (ln_64 hL) (pp_64_14 hL) dX11_fit_123 ?_
      obtain ⟨x17, hx17, hF⟩ := bnd hF
      refine c_static_i (As := [.ref 89, .ref s7, .ref 91]) mi_X11_missOf kw_701 kw_700 (ok_X11_missOf hL (ln_89 hL) hs7 (ln_91 hL) (nl_91 hL) hx17) rfl rfl (Nat.le_of_ble_eq_true rfl) ⟨Nat.le_of_ble_eq_true rfl, Nat.le_of_ble_eq_true rfl⟩ ⟨Nat.le_of_ble_eq_true rfl, Nat.le_of_ble_eq_true rfl⟩ dX11_fit_126 ?_
      refine r_istore (ls' := [(12, .int x17.1), (0, .ref 64), (1, .int u1), (2, .int u2), (3, .int u3), (4, .int u4), (6, .int u6), (7, .ref s7), (9, .int u9), (10, .int u10), (11, .int u11)]) dX11_fit_129 (by decide) rfl ?_
      refine r_iload dX11_fit_131 rfl ?_
      refine r_iload dX11_fit_133 rfl ?_
      refine r_icmp_ge (tgt := 146) dX11_fit_135 (by decide) (fun h19 => ?_) (fun h19 => ?_)
      · have hF := tw hF h19
        refine r_iinc (v := (u11 + 1)) (ls' := [(11, .int (u11 + 1)), (12, .int x17.1), (0, .ref 64), (1, .int u1), (2, .int u2), (3, .int u3), (4, .int u4), (6, .int u6), (7, .ref s7), (9, .int u9), (10, .int u10)]) dX11_fit_146 rfl rfl (by decide) rfl ?_
        refine r_goto (tgt := 86) dX11_fit_149 (by decide) ?_
        refine r_sub (ls' := [(0, .ref 64), (1, .int u1), (2, .int u2), (3, .int u3), (4, .int u4), (6, .int u6), (7, .ref s7), (9, .int u9), (10, .int u10), (11, .int (u11 + 1))]) [2, 3, 4, 5, 6, 7, 8, 9, 10, 0] rfl ?_
        exact ih u9 u10 (u11 + 1) x17.2 x16.2.2 hL hF
      · have hF := fw hF h19
        refine r_iload dX11_fit_138 rfl ?_
        refine r_istore (ls' := [(10, .int x17.1), (12, .int x17.1), (0, .ref 64), (1, .int u1), (2, .int u2), (3, .int u3), (4, .int u4), (6, .int u6), (7, .ref s7), (9, .int u9), (11, .int u11)]) dX11_fit_140 (by decide) rfl ?_
        refine r_iload dX11_fit_142 rfl ?_
        refine r_istore (ls' := [(9, .int u11), (10, .int x17.1), (12, .int x17.1), (0, .ref 64), (1, .int u1), (2, .int u2), (3, .int u3), (4, .int u4), (6, .int u6), (7, .ref s7), (11, .int u11)]) dX11_fit_144 (by decide) rfl ?_
        refine r_iinc (v := (u11 + 1)) (ls' := [(11, .int (u11 + 1)), (9, .int u11), (10, .int x17.1), (12, .int x17.1), (0, .ref 64), (1, .int u1), (2, .int u2), (3, .int u3), (4, .int u4), (6, .int u6), (7, .ref s7)]) dX11_fit_146 rfl rfl (by decide) rfl ?_
        refine r_goto (tgt := 86) dX11_fit_149 (by decide) ?_
        refine r_sub (ls' := [(0, .ref 64), (1, .int u1), (2, .int u2), (3, .int u3), (4, .int u4), (6, .int u6), (7, .ref s7), (9, .int u11), (10, .int x17.1), (11, .int (u11 + 1))]) [4, 5, 6, 7, 8, 9, 10, 1, 2, 0] rfl ?_
        exact ih u11 x17.1 (u11 + 1) x17.2 x16.2.2 hL hF
def F_X11_fit (N : Nat) (T : TM) (I : IM) (J : JM) (P : PM) (p1 : Int32) (p2 : Int32) (p3 : Int32) (p4 : Int32) (p5 : Int32) (p6 : Int32) : Option (Int32 × IM × PM) := (if p6 < 0 then (some ((-1), I, P)) else (if 6 ≤ p6 then (some ((-1), I, P)) else ((F_X11_begin T I P 89 p1 p2 p3 p4).bind (fun x3 => (if x3.1 = 0 then (some ((-1), x3.2.1, x3.2.2)) else ((F_X11_sheetAt x3.2.2 p5).bind (fun x5 => (osel x5 (letb (F_X11_filmRefusal x3.2.1 none) (fun y7 : Int32 => (some (y7, x3.2.1, x3.2.2)))) (fun c6 => (if isSb c6 = true then (letb (F_X11_filmRefusal x3.2.1 (some c6)) (fun y9 : Int32 => (if 0 ≤ y9 then (letb (va_up x3.2.1 91 (va_cpy (x3.2.1 67) (x3.2.1 91) 0 0 6)) (fun I11 : IM => (G_X11_fit_86 N T J c6 p1 p2 p3 p4 p6 N 0 999999999 0 I11 x3.2.2))) else (some (y9, x3.2.1, x3.2.2))))) else none))))))))))
set_option maxHeartbeats 4000000 in
theorem ok_X11_fit {E : GE} {T : TM} {I : IM} {J : JM} {P : PM} {p1 : Int32} {p2 : Int32} {p3 : Int32} {p4 : Int32} {p5 : Int32} {p6 : Int32} {N : Nat} {x : Int32 × IM × PM} (hL : LOK T P) (hF : F_X11_fit N T I J P p1 p2 p3 p4 p5 p6 = some x) : CtrP E (LOK T x.2.2) mX11_fit 4 0 0 [.ref 64, .int p1, .int p2, .int p3, .int p4, .int p5, .int p6] T I J P (some (.int x.1)) T x.2.1 J x.2.2 := by
  unfold F_X11_fit at hF
  refine ctrP_intro (by decide) (Nat.le_of_ble_eq_true rfl) ?_
  refine r_sub (ls' := [(6, .int p6), (5, .int p5), (4, .int p4), (3, .int p3), (2, .int p2), (1, .int p1), (0, .ref 64)]) [6, 5, 4, 3, 2, 1, 0] rfl ?_
  refine r_iload dX11_fit_0 rfl ?_
  refine r_if_lt (tgt := 28) dX11_fit_2 (by decide) (fun h1 => ?_) (fun h1 => ?_)
  · have hF := tw hF h1
    refine r_iconst (v := (-1)) dX11_fit_28 (by decide) ?_
    obtain rfl := Option.some.inj hF
    exact p_ireturn (x := (-1)) rfl rfl dX11_fit_29 hL (Nat.le_of_ble_eq_true rfl) (Nat.le_of_ble_eq_true rfl)
  · have hF := fw hF h1
    refine r_iload dX11_fit_5 rfl ?_
    refine r_bipush (v := 6) dX11_fit_7 (by decide) ?_
    refine r_icmp_ge (tgt := 28) dX11_fit_9 (by decide) (fun h2 => ?_) (fun h2 => ?_)
    · have hF := tw hF h2
      refine r_iconst (v := (-1)) dX11_fit_28 (by decide) ?_
      obtain rfl := Option.some.inj hF
      exact p_ireturn (x := (-1)) rfl rfl dX11_fit_29 hL (Nat.le_of_ble_eq_true rfl) (Nat.le_of_ble_eq_true rfl)
    · have hF := fw hF h2
      refine r_aload_n dX11_fit_12 rfl rfl ?_
      refine r_aload_n dX11_fit_13 rfl rfl ?_
      refine r_getP lk_X11_58 (ln_64 hL) (pp_64_12 hL) dX11_fit_14 ?_
      refine r_iload_n dX11_fit_17 rfl rfl ?_
      refine r_iload_n dX11_fit_18 rfl rfl ?_
      refine r_iload_n dX11_fit_19 rfl rfl ?_
      refine r_iload dX11_fit_20 rfl ?_
      obtain ⟨x3, hx3, hF⟩ := bnd hF
      refine cp_virt_i (As := [.ref 89, .int p1, .int p2, .int p3, .int p4]) mi_X11_begin kw_542 ks_13 kw_540 rfl (by decide) (ln_64 hL) (ok_X11_begin hL (ln_89 hL) hx3) rfl rfl (Nat.le_of_ble_eq_true rfl) ⟨Nat.le_of_ble_eq_true rfl, Nat.le_of_ble_eq_true rfl⟩ ⟨Nat.le_of_ble_eq_true rfl, Nat.le_of_ble_eq_true rfl⟩ dX11_fit_22 ?_
      intro hL
      refine r_if_ne (tgt := 30) dX11_fit_25 (by decide) (fun h4 => ?_) (fun h4 => ?_)
      · have hF := fw hF h4
        refine r_aload_n dX11_fit_30 rfl rfl ?_
        refine r_iload dX11_fit_31 rfl ?_
        obtain ⟨x5, hx5, hF⟩ := bnd hF
        refine c_virt_q (As := [.int p5]) mi_X11_sheetAt kw_693 ks_18 kw_691 rfl (by decide) (ln_64 hL) (ok_X11_sheetAt hL  hx5) rfl rfl (Nat.le_of_ble_eq_true rfl) ⟨Nat.le_of_ble_eq_true rfl, Nat.le_of_ble_eq_true rfl⟩ ⟨Nat.le_of_ble_eq_true rfl, Nat.le_of_ble_eq_true rfl⟩ dX11_fit_33 ?_
        rcases q20 : x5 with _ | c6
        · have hF := (osel_n q20).symm.trans hF
          (try rw [q20])
          show WW _ _ _ _ _ _ _ _ _ _ _ _ (.null :: _)
          refine r_astoreN (ls' := [(7, .null), (6, .int p6), (5, .int p5), (4, .int p4), (3, .int p3), (2, .int p2), (1, .int p1), (0, .ref 64)]) dX11_fit_36 (by decide) rfl ?_
          refine r_aloadN dX11_fit_38 rfl ?_
          refine c_static_i (As := [.null]) mi_X11_filmRefusal kw_696 kw_695 (ok_X11_filmRefusal hL (fun _ h => by cases h) (s1 := none)) rfl rfl (Nat.le_of_ble_eq_true rfl) ⟨Nat.le_of_ble_eq_true rfl, Nat.le_of_ble_eq_true rfl⟩ ⟨Nat.le_of_ble_eq_true rfl, Nat.le_of_ble_eq_true rfl⟩ dX11_fit_40 ?_
          refine r_letV hF (fun y7 hF => ?_)
          refine r_istore (ls' := [(8, .int y7), (7, .null), (6, .int p6), (5, .int p5), (4, .int p4), (3, .int p3), (2, .int p2), (1, .int p1), (0, .ref 64)]) dX11_fit_43 (by decide) rfl ?_
          refine r_aloadN dX11_fit_45 rfl ?_
          refine r_ifnullN (tgt := 55) dX11_fit_47 (by decide) ?_
          refine r_iload dX11_fit_55 rfl ?_
          obtain rfl := Option.some.inj hF
          exact p_ireturn (x := y7) rfl rfl dX11_fit_57 hL (Nat.le_of_ble_eq_true rfl) (Nat.le_of_ble_eq_true rfl)
        · have hF := (osel_s q20).symm.trans hF
          (try rw [q20])
          show WW _ _ _ _ _ _ _ _ _ _ _ _ (.ref c6 :: _)
          obtain ⟨g8, hF⟩ := gd hF
          have hc6 := g8
          refine r_astore (ls' := [(7, .ref c6), (6, .int p6), (5, .int p5), (4, .int p4), (3, .int p3), (2, .int p2), (1, .int p1), (0, .ref 64)]) dX11_fit_36 (by decide) rfl ?_
          refine r_aload dX11_fit_38 rfl ?_
          refine c_static_i (As := [.ref c6]) mi_X11_filmRefusal kw_696 kw_695 (ok_X11_filmRefusal hL (fun _ h => by cases h; exact (isSb_of hc6)) (s1 := (some c6))) rfl rfl (Nat.le_of_ble_eq_true rfl) ⟨Nat.le_of_ble_eq_true rfl, Nat.le_of_ble_eq_true rfl⟩ ⟨Nat.le_of_ble_eq_true rfl, Nat.le_of_ble_eq_true rfl⟩ dX11_fit_40 ?_
          refine r_letV hF (fun y9 hF => ?_)
          refine r_istore (ls' := [(8, .int y9), (7, .ref c6), (6, .int p6), (5, .int p5), (4, .int p4), (3, .int p3), (2, .int p2), (1, .int p1), (0, .ref 64)]) dX11_fit_43 (by decide) rfl ?_
          refine r_aload dX11_fit_45 rfl ?_
          refine r_ifnull dX11_fit_47 ?_
          refine r_iload dX11_fit_50 rfl ?_
          refine r_if_ge (tgt := 58) dX11_fit_52 (by decide) (fun h10 => ?_) (fun h10 => ?_)
          · have hF := tw hF h10
            refine r_aload_n dX11_fit_58 rfl rfl ?_
            refine r_getP lk_X11_10 (ln_64 hL) (pp_64_0 hL) dX11_fit_59 ?_
            refine r_getP lk_X11_120 (ln_65 hL) (pp_65_2 hL) dX11_fit_62 ?_
            refine r_iconst (v := 0) dX11_fit_65 (by decide) ?_
            refine r_aload_n dX11_fit_66 rfl rfl ?_
            refine r_getP lk_X11_65 (ln_64 hL) (pp_64_14 hL) dX11_fit_67 ?_
            refine r_iconst (v := 0) dX11_fit_70 (by decide) ?_
            refine r_bipush (v := 6) dX11_fit_71 (by decide) ?_
            refine r_copyI (ln_67 hL) (ln_91 hL) (by decide) (by rw [(nl_67 hL)]; decide) (by rw [(nl_91 hL)]; decide) ⟨Nat.le_of_ble_eq_true rfl, Nat.le_of_ble_eq_true rfl⟩ kw_698 kw_252 kw_251 kw_8 dX11_fit_73 ?_
            refine r_letI hF (fun I11 hF => ?_)
            refine r_iconst (v := 0) dX11_fit_76 (by decide) ?_
            refine r_istore (ls' := [(9, .int 0), (8, .int y9), (7, .ref c6), (6, .int p6), (5, .int p5), (4, .int p4), (3, .int p3), (2, .int p2), (1, .int p1), (0, .ref 64)]) dX11_fit_77 (by decide) rfl ?_
            refine r_ldc dX11_fit_79 kw_699 ?_
            refine r_istore (ls' := [(10, .int 999999999), (9, .int 0), (8, .int y9), (7, .ref c6), (6, .int p6), (5, .int p5), (4, .int p4), (3, .int p3), (2, .int p2), (1, .int p1), (0, .ref 64)]) dX11_fit_81 (by decide) rfl ?_
            refine r_iconst (v := 0) dX11_fit_83 (by decide) ?_
            refine r_istore (ls' := [(11, .int 0), (10, .int 999999999), (9, .int 0), (8, .int y9), (7, .ref c6), (6, .int p6), (5, .int p5), (4, .int p4), (3, .int p3), (2, .int p2), (1, .int p1), (0, .ref 64)]) dX11_fit_84 (by decide) rfl ?_
            refine r_sub (ls' := [(0, .ref 64), (1, .int p1), (2, .int p2), (3, .int p3), (4, .int p4), (6, .int p6), (7, .ref c6), (9, .int 0), (10, .int 999999999), (11, .int 0)]) [11, 10, 9, 8, 7, 5, 4, 2, 1, 0] rfl ?_
            exact okG_X11_fit_86  (isSb_of hc6)  N 0 999999999 0 I11 x3.2.2 hL hF
          · have hF := fw hF h10
            refine r_iload dX11_fit_55 rfl ?_
            obtain rfl := Option.some.inj hF
            exact p_ireturn (x := y9) rfl rfl dX11_fit_57 hL (Nat.le_of_ble_eq_true rfl) (Nat.le_of_ble_eq_true rfl)
      · have hF := tw hF h4
        refine r_iconst (v := (-1)) dX11_fit_28 (by decide) ?_
        obtain rfl := Option.some.inj hF
        exact p_ireturn (x := (-1)) rfl rfl dX11_fit_29 hL (Nat.le_of_ble_eq_true rfl) (Nat.le_of_ble_eq_true rfl)
def F_X11_miss (N : Nat) (T : TM) (I : IM) (J : JM) (P : PM) (p1 : Int32) (p2 : Int32) (p3 : Int32) (p4 : Int32) (p5 : Int32) : Option (Int32 × IM × PM) := ((F_X11_begin T I P 89 p1 p2 p3 p4).bind (fun x1 => (if x1.1 = 0 then (some ((-1), x1.2.1, x1.2.2)) else ((F_X11_sheetAt x1.2.2 p5).bind (fun x3 => (osel x3 (letb (F_X11_filmRefusal x1.2.1 none) (fun y5 : Int32 => (some (y5, x1.2.1, x1.2.2)))) (fun c4 => (if isSb c4 = true then (letb (F_X11_filmRefusal x1.2.1 (some c4)) (fun y7 : Int32 => (if 0 ≤ y7 then ((F_X11_missOf N T x1.2.1 J x1.2.2 89 c4 67).bind (fun x9 => (some (x9.1, x9.2, x1.2.2)))) else (some (y7, x1.2.1, x1.2.2))))) else none))))))))
set_option maxHeartbeats 4000000 in
theorem ok_X11_miss {E : GE} {T : TM} {I : IM} {J : JM} {P : PM} {p1 : Int32} {p2 : Int32} {p3 : Int32} {p4 : Int32} {p5 : Int32} {N : Nat} {x : Int32 × IM × PM} (hL : LOK T P) (hF : F_X11_miss N T I J P p1 p2 p3 p4 p5 = some x) : CtrP E (LOK T x.2.2) mX11_miss 4 0 0 [.ref 64, .int p1, .int p2, .int p3, .int p4, .int p5] T I J P (some (.int x.1)) T x.2.1 J x.2.2 := by
  unfold F_X11_miss at hF
  refine ctrP_intro (by decide) (Nat.le_of_ble_eq_true rfl) ?_
  refine r_sub (ls' := [(5, .int p5), (4, .int p4), (3, .int p3), (2, .int p2), (1, .int p1), (0, .ref 64)]) [5, 4, 3, 2, 1, 0] rfl ?_
  refine r_aload_n dX11_miss_0 rfl rfl ?_
  refine r_aload_n dX11_miss_1 rfl rfl ?_
  refine r_getP lk_X11_58 (ln_64 hL) (pp_64_12 hL) dX11_miss_2 ?_
  refine r_iload_n dX11_miss_5 rfl rfl ?_
  refine r_iload_n dX11_miss_6 rfl rfl ?_
  refine r_iload_n dX11_miss_7 rfl rfl ?_
  refine r_iload dX11_miss_8 rfl ?_
  obtain ⟨x1, hx1, hF⟩ := bnd hF
  refine cp_virt_i (As := [.ref 89, .int p1, .int p2, .int p3, .int p4]) mi_X11_begin kw_542 ks_13 kw_540 rfl (by decide) (ln_64 hL) (ok_X11_begin hL (ln_89 hL) hx1) rfl rfl (Nat.le_of_ble_eq_true rfl) ⟨Nat.le_of_ble_eq_true rfl, Nat.le_of_ble_eq_true rfl⟩ ⟨Nat.le_of_ble_eq_true rfl, Nat.le_of_ble_eq_true rfl⟩ dX11_miss_10 ?_
  intro hL
  refine r_if_ne (tgt := 18) dX11_miss_13 (by decide) (fun h2 => ?_) (fun h2 => ?_)
  · have hF := fw hF h2
    refine r_aload_n dX11_miss_18 rfl rfl ?_
    refine r_iload dX11_miss_19 rfl ?_
    obtain ⟨x3, hx3, hF⟩ := bnd hF
    refine c_virt_q (As := [.int p5]) mi_X11_sheetAt kw_693 ks_18 kw_691 rfl (by decide) (ln_64 hL) (ok_X11_sheetAt hL  hx3) rfl rfl (Nat.le_of_ble_eq_true rfl) ⟨Nat.le_of_ble_eq_true rfl, Nat.le_of_ble_eq_true rfl⟩ ⟨Nat.le_of_ble_eq_true rfl, Nat.le_of_ble_eq_true rfl⟩ dX11_miss_21 ?_
    rcases q10 : x3 with _ | c4
    · have hF := (osel_n q10).symm.trans hF
      (try rw [q10])
      show WW _ _ _ _ _ _ _ _ _ _ _ _ (.null :: _)
      refine r_astoreN (ls' := [(6, .null), (5, .int p5), (4, .int p4), (3, .int p3), (2, .int p2), (1, .int p1), (0, .ref 64)]) dX11_miss_24 (by decide) rfl ?_
      refine r_aloadN dX11_miss_26 rfl ?_
      refine c_static_i (As := [.null]) mi_X11_filmRefusal kw_696 kw_695 (ok_X11_filmRefusal hL (fun _ h => by cases h) (s1 := none)) rfl rfl (Nat.le_of_ble_eq_true rfl) ⟨Nat.le_of_ble_eq_true rfl, Nat.le_of_ble_eq_true rfl⟩ ⟨Nat.le_of_ble_eq_true rfl, Nat.le_of_ble_eq_true rfl⟩ dX11_miss_28 ?_
      refine r_letV hF (fun y5 hF => ?_)
      refine r_istore (ls' := [(7, .int y5), (6, .null), (5, .int p5), (4, .int p4), (3, .int p3), (2, .int p2), (1, .int p1), (0, .ref 64)]) dX11_miss_31 (by decide) rfl ?_
      refine r_aloadN dX11_miss_33 rfl ?_
      refine r_ifnullN (tgt := 43) dX11_miss_35 (by decide) ?_
      refine r_iload dX11_miss_43 rfl ?_
      refine r_goto (tgt := 64) dX11_miss_45 (by decide) ?_
      obtain rfl := Option.some.inj hF
      exact p_ireturn (x := y5) rfl rfl dX11_miss_64 hL (Nat.le_of_ble_eq_true rfl) (Nat.le_of_ble_eq_true rfl)
    · have hF := (osel_s q10).symm.trans hF
      (try rw [q10])
      show WW _ _ _ _ _ _ _ _ _ _ _ _ (.ref c4 :: _)
      obtain ⟨g6, hF⟩ := gd hF
      have hc4 := g6
      refine r_astore (ls' := [(6, .ref c4), (5, .int p5), (4, .int p4), (3, .int p3), (2, .int p2), (1, .int p1), (0, .ref 64)]) dX11_miss_24 (by decide) rfl ?_
      refine r_aload dX11_miss_26 rfl ?_
      refine c_static_i (As := [.ref c4]) mi_X11_filmRefusal kw_696 kw_695 (ok_X11_filmRefusal hL (fun _ h => by cases h; exact (isSb_of hc4)) (s1 := (some c4))) rfl rfl (Nat.le_of_ble_eq_true rfl) ⟨Nat.le_of_ble_eq_true rfl, Nat.le_of_ble_eq_true rfl⟩ ⟨Nat.le_of_ble_eq_true rfl, Nat.le_of_ble_eq_true rfl⟩ dX11_miss_28 ?_
      refine r_letV hF (fun y7 hF => ?_)
      refine r_istore (ls' := [(7, .int y7), (6, .ref c4), (5, .int p5), (4, .int p4), (3, .int p3), (2, .int p2), (1, .int p1), (0, .ref 64)]) dX11_miss_31 (by decide) rfl ?_
      refine r_aload dX11_miss_33 rfl ?_
      refine r_ifnull dX11_miss_35 ?_
      refine r_iload dX11_miss_38 rfl ?_
      refine r_if_ge (tgt := 48) dX11_miss_40 (by decide) (fun h8 => ?_) (fun h8 => ?_)
      · have hF := tw hF h8
        refine r_aload_n dX11_miss_48 rfl rfl ?_
        refine r_getP lk_X11_58 (ln_64 hL) (pp_64_12 hL) dX11_miss_49 ?_
        refine r_aload dX11_miss_52 rfl ?_
        refine r_aload_n dX11_miss_54 rfl rfl ?_
        refine r_getP lk_X11_10 (ln_64 hL) (pp_64_0 hL) dX11_miss_55 ?_
        refine r_getP lk_X11_120 (ln_65 hL) (pp_65_2 hL) dX11_miss_58 ?_
        obtain ⟨x9, hx9, hF⟩ := bnd hF
        refine c_static_i (As := [.ref 89, .ref c4, .ref 67]) mi_X11_missOf kw_701 kw_700 (ok_X11_missOf hL (ln_89 hL) (isSb_of hc4) (ln_67 hL) (nl_67 hL) hx9) rfl rfl (Nat.le_of_ble_eq_true rfl) ⟨Nat.le_of_ble_eq_true rfl, Nat.le_of_ble_eq_true rfl⟩ ⟨Nat.le_of_ble_eq_true rfl, Nat.le_of_ble_eq_true rfl⟩ dX11_miss_61 ?_
        obtain rfl := Option.some.inj hF
        exact p_ireturn (x := x9.1) rfl rfl dX11_miss_64 hL (Nat.le_of_ble_eq_true rfl) (Nat.le_of_ble_eq_true rfl)
      · have hF := fw hF h8
        refine r_iload dX11_miss_43 rfl ?_
        refine r_goto (tgt := 64) dX11_miss_45 (by decide) ?_
        obtain rfl := Option.some.inj hF
        exact p_ireturn (x := y7) rfl rfl dX11_miss_64 hL (Nat.le_of_ble_eq_true rfl) (Nat.le_of_ble_eq_true rfl)
  · have hF := tw hF h2
    refine r_iconst (v := (-1)) dX11_miss_16 (by decide) ?_
    obtain rfl := Option.some.inj hF
    exact p_ireturn (x := (-1)) rfl rfl dX11_miss_17 hL (Nat.le_of_ble_eq_true rfl) (Nat.le_of_ble_eq_true rfl)
def G_X11_handAt_4 (N : Nat) (I : IM) (u1 : Int32) : Nat → Int32 → Int32 → Option (Int32)
  | 0, _, _ => none
  | n + 1, u2, u3 => (if 5 ≤ u3 then (some 4) else (if inb u3 5 = true then (letb (u2 + (I 68 u3.toNatClampNeg)) (fun y3 : Int32 => (if y3 ≤ u1 then (G_X11_handAt_4 N I u1 n y3 (u3 + 1)) else (some u3)))) else none))
set_option maxHeartbeats 4000000 in
theorem okG_X11_handAt_4 {E : GE} {T : TM} {I : IM} {J : JM} {P : PM} {N : Nat} {u1 : Int32} {x : Int32} (hL : LOK T P) : ∀ (n : Nat) (u2 : Int32) (u3 : Int32), G_X11_handAt_4 N I u1 n u2 u3 = some x → WW E mX11_handAt (RM 0 0 0) (ZM E 0 0 (some (.int x)) T I J P) 0 0 T I J P 4 [(0, .ref 64), (1, .int u1), (2, .int u2), (3, .int u3)] [] := by
  intro n
  induction n with
  | zero =>
    intro u2 u3 hF
    cases hF
  | succ n ih =>
    intro u2 u3 hF
    rw [G_X11_handAt_4] at hF
    refine r_iload_n dX11_handAt_4 rfl rfl ?_
    refine r_iconst (v := 5) dX11_handAt_5 (by decide) ?_
    refine r_icmp_ge (tgt := 34) dX11_handAt_6 (by decide) (fun h1 => ?_) (fun h1 => ?_)
    · have hF := tw hF h1
      refine r_iconst (v := 4) dX11_handAt_34 (by decide) ?_
      obtain rfl := Option.some.inj hF
      exact r_ireturn (x := 4) rfl rfl dX11_handAt_35 (Nat.le_of_ble_eq_true rfl) (Nat.le_of_ble_eq_true rfl)
    · have hF := fw hF h1
      refine r_iload_n dX11_handAt_9 rfl rfl ?_
      refine r_aload_n dX11_handAt_10 rfl rfl ?_
      refine r_getP lk_X11_10 (ln_64 hL) (pp_64_0 hL) dX11_handAt_11 ?_
      refine r_getP lk_X11_123 (ln_65 hL) (pp_65_3 hL) dX11_handAt_14 ?_
      refine r_iload_n dX11_handAt_17 rfl rfl ?_
      obtain ⟨g2, hF⟩ := gd hF
      refine r_iald (ln_68 hL) (by rw [(nl_68 hL)]; exact g2) dX11_handAt_18 ?_
      refine r_iadd dX11_handAt_19 ?_
      refine r_letV hF (fun y3 hF => ?_)
      refine r_istore_n (ls' := [(2, .int y3), (0, .ref 64), (1, .int u1), (3, .int u3)]) dX11_handAt_20 rfl (by decide) rfl ?_
      refine r_iload_n dX11_handAt_21 rfl rfl ?_
      refine r_iload_n dX11_handAt_22 rfl rfl ?_
      refine r_icmp_ge (tgt := 28) dX11_handAt_23 (by decide) (fun h4 => ?_) (fun h4 => ?_)
      · have hF := tw hF h4
        refine r_iinc (v := (u3 + 1)) (ls' := [(3, .int (u3 + 1)), (2, .int y3), (0, .ref 64), (1, .int u1)]) dX11_handAt_28 rfl rfl (by decide) rfl ?_
        refine r_goto (tgt := 4) dX11_handAt_31 (by decide) ?_
        refine r_sub (ls' := [(0, .ref 64), (1, .int u1), (2, .int y3), (3, .int (u3 + 1))]) [2, 3, 1, 0] rfl ?_
        exact ih y3 (u3 + 1) hF
      · have hF := fw hF h4
        refine r_iload_n dX11_handAt_26 rfl rfl ?_
        obtain rfl := Option.some.inj hF
        exact r_ireturn (x := u3) rfl rfl dX11_handAt_27 (Nat.le_of_ble_eq_true rfl) (Nat.le_of_ble_eq_true rfl)
def F_X11_handAt (N : Nat) (I : IM) (p1 : Int32) : Option (Int32) := (G_X11_handAt_4 N I p1 N 0 0)
set_option maxHeartbeats 4000000 in
theorem ok_X11_handAt {E : GE} {T : TM} {I : IM} {J : JM} {P : PM} {p1 : Int32} {N : Nat} {x : Int32} (hL : LOK T P) (hF : F_X11_handAt N I p1 = some x) : Ctr E mX11_handAt 0 0 0 [.ref 64, .int p1] T I J P (some (.int x)) T I J P := by
  unfold F_X11_handAt at hF
  refine ctr_intro rfl (by decide +kernel) (Nat.le_of_ble_eq_true rfl) ?_
  refine r_sub (ls' := [(1, .int p1), (0, .ref 64)]) [1, 0] rfl ?_
  refine r_iconst (v := 0) dX11_handAt_0 (by decide) ?_
  refine r_istore_n (ls' := [(2, .int 0), (1, .int p1), (0, .ref 64)]) dX11_handAt_1 rfl (by decide) rfl ?_
  refine r_iconst (v := 0) dX11_handAt_2 (by decide) ?_
  refine r_istore_n (ls' := [(3, .int 0), (2, .int 0), (1, .int p1), (0, .ref 64)]) dX11_handAt_3 rfl (by decide) rfl ?_
  refine r_sub (ls' := [(0, .ref 64), (1, .int p1), (2, .int 0), (3, .int 0)]) [3, 2, 1, 0] rfl ?_
  exact okG_X11_handAt_4 hL   N 0 0 hF
def F_X11_toss (N : Nat) (T : TM) (I : IM) (P : PM) (p1 : Int32) (p2 : Int32) (p3 : Int32) (p4 : Int32) : Option (Int32 × IM × PM) := ((F_X10_allWeights N I 65).bind (fun x1 => (if x1 < 1 then (some ((-2147483648), I, P)) else ((F_X11_begin T I P 89 p1 p2 p3 p4).bind (fun x3 => (if x3.1 = 0 then (some ((-2147483648), x3.2.1, x3.2.2)) else (letb (up2 x3.2.1 65 5 (((x3.2.1 65 5) * 1103515245) + 12345)) (fun I5 : IM => (if ¬ x1 = 0 then ((F_X11_handAt N I5 (((Int32.toUInt32 (I5 65 5) >>> (Int32.toUInt32 16 &&& Int32.toUInt32 31)).toInt32) - ((Int32.toUInt32 (I5 65 5) >>> (Int32.toUInt32 16 &&& Int32.toUInt32 31)).toInt32) / x1 * x1)).bind (fun x7 => ((F_X11_byHand p3 x7).bind (fun x8 => ((F_X11_landsOn N T I5 x3.2.2 p1 p2 x8 p4).bind (fun x9 => (some (x9.1, x9.2.1, x9.2.2)))))))) else none)))))))))
set_option maxHeartbeats 4000000 in
theorem ok_X11_toss {E : GE} {T : TM} {I : IM} {J : JM} {P : PM} {p1 : Int32} {p2 : Int32} {p3 : Int32} {p4 : Int32} {N : Nat} {x : Int32 × IM × PM} (hL : LOK T P) (hF : F_X11_toss N T I P p1 p2 p3 p4 = some x) : CtrP E (LOK T x.2.2) mX11_toss 5 0 0 [.ref 64, .int p1, .int p2, .int p3, .int p4] T I J P (some (.int x.1)) T x.2.1 J x.2.2 := by
  unfold F_X11_toss at hF
  refine ctrP_intro (by decide) (Nat.le_of_ble_eq_true rfl) ?_
  refine r_sub (ls' := [(4, .int p4), (3, .int p3), (2, .int p2), (1, .int p1), (0, .ref 64)]) [4, 3, 2, 1, 0] rfl ?_
  refine r_aload_n dX11_toss_0 rfl rfl ?_
  refine r_getP lk_X11_10 (ln_64 hL) (pp_64_0 hL) dX11_toss_1 ?_
  obtain ⟨x1, hx1, hF⟩ := bnd hF
  refine c_virt_i (As := []) mi_X10_allWeights kw_524 kw_525 kw_523 rfl (by decide) (ln_65 hL) (ok_X10_allWeights hL (isw_65) hx1) rfl rfl (Nat.le_of_ble_eq_true rfl) ⟨Nat.le_of_ble_eq_true rfl, Nat.le_of_ble_eq_true rfl⟩ ⟨Nat.le_of_ble_eq_true rfl, Nat.le_of_ble_eq_true rfl⟩ dX11_toss_4 ?_
  refine r_istore (ls' := [(5, .int x1), (4, .int p4), (3, .int p3), (2, .int p2), (1, .int p1), (0, .ref 64)]) dX11_toss_7 (by decide) rfl ?_
  refine r_iload dX11_toss_9 rfl ?_
  refine r_iconst (v := 1) dX11_toss_11 (by decide) ?_
  refine r_icmp_lt (tgt := 31) dX11_toss_12 (by decide) (fun h2 => ?_) (fun h2 => ?_)
  · have hF := tw hF h2
    refine r_ldc dX11_toss_31 kw_621 ?_
    obtain rfl := Option.some.inj hF
    exact p_ireturn (x := (-2147483648)) rfl rfl dX11_toss_33 hL (Nat.le_of_ble_eq_true rfl) (Nat.le_of_ble_eq_true rfl)
  · have hF := fw hF h2
    refine r_aload_n dX11_toss_15 rfl rfl ?_
    refine r_aload_n dX11_toss_16 rfl rfl ?_
    refine r_getP lk_X11_58 (ln_64 hL) (pp_64_12 hL) dX11_toss_17 ?_
    refine r_iload_n dX11_toss_20 rfl rfl ?_
    refine r_iload_n dX11_toss_21 rfl rfl ?_
    refine r_iload_n dX11_toss_22 rfl rfl ?_
    refine r_iload dX11_toss_23 rfl ?_
    obtain ⟨x3, hx3, hF⟩ := bnd hF
    refine cp_virt_i (As := [.ref 89, .int p1, .int p2, .int p3, .int p4]) mi_X11_begin kw_542 ks_13 kw_540 rfl (by decide) (ln_64 hL) (ok_X11_begin hL (ln_89 hL) hx3) rfl rfl (Nat.le_of_ble_eq_true rfl) ⟨Nat.le_of_ble_eq_true rfl, Nat.le_of_ble_eq_true rfl⟩ ⟨Nat.le_of_ble_eq_true rfl, Nat.le_of_ble_eq_true rfl⟩ dX11_toss_25 ?_
    intro hL
    refine r_if_ne (tgt := 34) dX11_toss_28 (by decide) (fun h4 => ?_) (fun h4 => ?_)
    · have hF := fw hF h4
      refine r_aload_n dX11_toss_34 rfl rfl ?_
      refine r_getP lk_X11_10 (ln_64 hL) (pp_64_0 hL) dX11_toss_35 ?_
      refine r_aload_n dX11_toss_38 rfl rfl ?_
      refine r_getP lk_X11_10 (ln_64 hL) (pp_64_0 hL) dX11_toss_39 ?_
      refine r_getI lk_X11_243 (ln_65 hL) dX11_toss_42 ?_
      refine r_ldc dX11_toss_45 kw_718 ?_
      refine r_imul dX11_toss_47 ?_
      refine r_sipush (v := 12345) dX11_toss_48 (by decide) ?_
      refine r_iadd dX11_toss_51 ?_
      refine r_putI lk_X11_243 (Or.inl rfl) (ln_65 hL) rfl rfl dX11_toss_52 ?_
      refine r_letI hF (fun I5 hF => ?_)
      refine r_aload_n dX11_toss_55 rfl rfl ?_
      refine r_iload_n dX11_toss_56 rfl rfl ?_
      refine r_iload_n dX11_toss_57 rfl rfl ?_
      refine r_iload_n dX11_toss_58 rfl rfl ?_
      refine r_aload_n dX11_toss_59 rfl rfl ?_
      refine r_aload_n dX11_toss_60 rfl rfl ?_
      refine r_getP lk_X11_10 (ln_64 hL) (pp_64_0 hL) dX11_toss_61 ?_
      refine r_getI lk_X11_243 (ln_65 hL) dX11_toss_64 ?_
      refine r_bipush (v := 16) dX11_toss_67 (by decide) ?_
      refine r_iushr dX11_toss_69 ?_
      refine r_iload dX11_toss_70 rfl ?_
      obtain ⟨g6, hF⟩ := gd hF
      refine r_irem dX11_toss_72 g6 ?_
      obtain ⟨x7, hx7, hF⟩ := bnd hF
      refine c_virt_i (As := [.int (((Int32.toUInt32 (I5 65 5) >>> (Int32.toUInt32 16 &&& Int32.toUInt32 31)).toInt32) - ((Int32.toUInt32 (I5 65 5) >>> (Int32.toUInt32 16 &&& Int32.toUInt32 31)).toInt32) / x1 * x1)]) mi_X11_handAt kw_721 ks_19 kw_719 rfl (by decide) (ln_64 hL) (ok_X11_handAt hL  hx7) rfl rfl (Nat.le_of_ble_eq_true rfl) ⟨Nat.le_of_ble_eq_true rfl, Nat.le_of_ble_eq_true rfl⟩ ⟨Nat.le_of_ble_eq_true rfl, Nat.le_of_ble_eq_true rfl⟩ dX11_toss_73 ?_
      obtain ⟨x8, hx8, hF⟩ := bnd hF
      refine c_static_i (As := [.int p3, .int x7]) mi_X11_byHand kw_665 kw_664 (ok_X11_byHand hL  hx8) rfl rfl (Nat.le_of_ble_eq_true rfl) ⟨Nat.le_of_ble_eq_true rfl, Nat.le_of_ble_eq_true rfl⟩ ⟨Nat.le_of_ble_eq_true rfl, Nat.le_of_ble_eq_true rfl⟩ dX11_toss_76 ?_
      refine r_iload dX11_toss_79 rfl ?_
      obtain ⟨x9, hx9, hF⟩ := bnd hF
      refine cp_virt_i (As := [.int p1, .int p2, .int x8, .int p4]) mi_X11_landsOn kw_670 ks_16 kw_668 rfl (by decide) (ln_64 hL) (ok_X11_landsOn hL  hx9) rfl rfl (Nat.le_of_ble_eq_true rfl) ⟨Nat.le_of_ble_eq_true rfl, Nat.le_of_ble_eq_true rfl⟩ ⟨Nat.le_of_ble_eq_true rfl, Nat.le_of_ble_eq_true rfl⟩ dX11_toss_81 ?_
      intro hL
      obtain rfl := Option.some.inj hF
      exact p_ireturn (x := x9.1) rfl rfl dX11_toss_84 hL (Nat.le_of_ble_eq_true rfl) (Nat.le_of_ble_eq_true rfl)
    · have hF := tw hF h4
      refine r_ldc dX11_toss_31 kw_621 ?_
      obtain rfl := Option.some.inj hF
      exact p_ireturn (x := (-2147483648)) rfl rfl dX11_toss_33 hL (Nat.le_of_ble_eq_true rfl) (Nat.le_of_ble_eq_true rfl)
def F_X11_seed (I : IM) (p1 : Int32) : Option (Int32 × IM) := (letb (I 65 5) (fun y1 : Int32 => (letb (up2 I 65 5 p1) (fun I2 : IM => (some (y1, I2))))))
set_option maxHeartbeats 4000000 in
theorem ok_X11_seed {E : GE} {T : TM} {I : IM} {J : JM} {P : PM} {p1 : Int32} {x : Int32 × IM} (hL : LOK T P) (hF : F_X11_seed I p1 = some x) : Ctr E mX11_seed 0 0 0 [.ref 64, .int p1] T I J P (some (.int x.1)) T x.2 J P := by
  unfold F_X11_seed at hF
  refine ctr_intro rfl (by decide +kernel) (Nat.le_of_ble_eq_true rfl) ?_
  refine r_sub (ls' := [(1, .int p1), (0, .ref 64)]) [1, 0] rfl ?_
  refine r_aload_n dX11_seed_0 rfl rfl ?_
  refine r_getP lk_X11_10 (ln_64 hL) (pp_64_0 hL) dX11_seed_1 ?_
  refine r_getI lk_X11_243 (ln_65 hL) dX11_seed_4 ?_
  refine r_letV hF (fun y1 hF => ?_)
  refine r_istore_n (ls' := [(2, .int y1), (1, .int p1), (0, .ref 64)]) dX11_seed_7 rfl (by decide) rfl ?_
  refine r_aload_n dX11_seed_8 rfl rfl ?_
  refine r_getP lk_X11_10 (ln_64 hL) (pp_64_0 hL) dX11_seed_9 ?_
  refine r_iload_n dX11_seed_12 rfl rfl ?_
  refine r_putI lk_X11_243 (Or.inl rfl) (ln_65 hL) rfl rfl dX11_seed_13 ?_
  refine r_letI hF (fun I2 hF => ?_)
  refine r_iload_n dX11_seed_16 rfl rfl ?_
  obtain rfl := Option.some.inj hF
  exact r_ireturn (x := y1) rfl rfl dX11_seed_17 (Nat.le_of_ble_eq_true rfl) (Nat.le_of_ble_eq_true rfl)
def G_X11_prove_48 (N : Nat) (T : TM) (P : PM) (u1 : Int32) : Nat → IM → Option (Int32 × IM × PM)
  | 0, _ => none
  | n + 1, Iv => (if u1 ≤ (Iv 64 11) then (some ((Iv 64 11), Iv, P)) else (if (F_X1_landed Iv 89) = 0 then ((F_X1_step T Iv P 89 67).bind (fun x11 => (letb ((x11 64 11) * 3) (fun y12 : Int32 => (if inb y12 60 = true then (letb (up2 x11 88 y12.toNatClampNeg (x11 89 3)) (fun I14 : IM => (if inb (y12 + 1) 60 = true then (letb (up2 I14 88 (y12 + 1).toNatClampNeg (I14 89 4)) (fun I16 : IM => (if inb (y12 + 2) 60 = true then (letb (up2 I16 88 (y12 + 2).toNatClampNeg (I16 89 5)) (fun I18 : IM => (letb (up2 I18 64 11 ((I18 64 11) + 1)) (fun I19 : IM => (G_X11_prove_48 N T P u1 n I19))))) else none))) else none))) else none))))) else (some ((Iv 64 11), Iv, P))))
set_option maxHeartbeats 4000000 in
theorem okG_X11_prove_48 {E : GE} {T : TM} {J : JM} {P : PM} {N : Nat} {u1 : Int32} {x : Int32 × IM × PM} (hL : LOK T P) : ∀ (n : Nat) (Iv : IM), G_X11_prove_48 N T P u1 n Iv = some x → WW E mX11_prove (RM 3 0 0) (ZP E (LOK T x.2.2) 0 0 (some (.int x.1)) T x.2.1 J x.2.2) 0 0 T Iv J P 48 [(0, .ref 64), (1, .int u1)] [] := by
  intro n
  induction n with
  | zero =>
    intro Iv hF
    cases hF
  | succ n ih =>
    intro Iv hF
    rw [G_X11_prove_48] at hF
    refine r_aload_n dX11_prove_48 rfl rfl ?_
    refine r_getI lk_X11_91 (ln_64 hL) dX11_prove_49 ?_
    refine r_iload_n dX11_prove_52 rfl rfl ?_
    refine r_icmp_ge (tgt := 143) dX11_prove_53 (by decide) (fun h8 => ?_) (fun h8 => ?_)
    · have hF := tw hF h8
      refine r_aload_n dX11_prove_143 rfl rfl ?_
      refine r_getI lk_X11_91 (ln_64 hL) dX11_prove_144 ?_
      obtain rfl := Option.some.inj hF
      exact p_ireturn (x := (Iv 64 11)) rfl rfl dX11_prove_147 hL (Nat.le_of_ble_eq_true rfl) (Nat.le_of_ble_eq_true rfl)
    · have hF := fw hF h8
      refine r_aload_n dX11_prove_56 rfl rfl ?_
      refine r_getP lk_X11_58 (ln_64 hL) (pp_64_12 hL) dX11_prove_57 ?_
      refine c_virt_i (As := []) mi_X1_landed kw_556 kw_557 kw_555 rfl (by decide) (ln_89 hL) (ok_X1_landed hL (ln_89 hL) (a := 89)) rfl rfl (Nat.le_of_ble_eq_true rfl) ⟨Nat.le_of_ble_eq_true rfl, Nat.le_of_ble_eq_true rfl⟩ ⟨Nat.le_of_ble_eq_true rfl, Nat.le_of_ble_eq_true rfl⟩ dX11_prove_60 ?_
      refine r_if_ne (tgt := 143) dX11_prove_63 (by decide) (fun h10 => ?_) (fun h10 => ?_)
      · have hF := fw hF h10
        refine r_aload_n dX11_prove_143 rfl rfl ?_
        refine r_getI lk_X11_91 (ln_64 hL) dX11_prove_144 ?_
        obtain rfl := Option.some.inj hF
        exact p_ireturn (x := (Iv 64 11)) rfl rfl dX11_prove_147 hL (Nat.le_of_ble_eq_true rfl) (Nat.le_of_ble_eq_true rfl)
      · have hF := tw hF h10
        refine r_aload_n dX11_prove_66 rfl rfl ?_
        refine r_getP lk_X11_58 (ln_64 hL) (pp_64_12 hL) dX11_prove_67 ?_
        refine r_aload_n dX11_prove_70 rfl rfl ?_
        refine r_getP lk_X11_10 (ln_64 hL) (pp_64_0 hL) dX11_prove_71 ?_
        refine r_getP lk_X11_120 (ln_65 hL) (pp_65_2 hL) dX11_prove_74 ?_
        obtain ⟨x11, hx11, hF⟩ := bnd hF
        refine c_virt_v (As := [.ref 67]) mi_X1_step kw_560 kw_561 kw_559 rfl (by decide) (ln_89 hL) (ok_X1_step hL (ln_89 hL) (ln_67 hL) (nl_67 hL) hx11) rfl rfl (Nat.le_of_ble_eq_true rfl) ⟨Nat.le_of_ble_eq_true rfl, Nat.le_of_ble_eq_true rfl⟩ ⟨Nat.le_of_ble_eq_true rfl, Nat.le_of_ble_eq_true rfl⟩ dX11_prove_77 ?_
        refine r_aload_n dX11_prove_80 rfl rfl ?_
        refine r_getI lk_X11_91 (ln_64 hL) dX11_prove_81 ?_
        refine r_iconst (v := 3) dX11_prove_84 (by decide) ?_
        refine r_imul dX11_prove_85 ?_
        refine r_letV hF (fun y12 hF => ?_)
        refine r_istore_n (ls' := [(2, .int y12), (0, .ref 64), (1, .int u1)]) dX11_prove_86 rfl (by decide) rfl ?_
        refine r_aload_n dX11_prove_87 rfl rfl ?_
        refine r_getP lk_X11_52 (ln_64 hL) (pp_64_10 hL) dX11_prove_88 ?_
        refine r_iload_n dX11_prove_91 rfl rfl ?_
        refine r_aload_n dX11_prove_92 rfl rfl ?_
        refine r_getP lk_X11_58 (ln_64 hL) (pp_64_12 hL) dX11_prove_93 ?_
        refine r_getI lk_X11_159 (ln_89 hL) dX11_prove_96 ?_
        obtain ⟨g13, hF⟩ := gd hF
        refine r_iast (ln_88 hL) (by rw [(nl_88 hL)]; exact g13) dX11_prove_99 ?_
        refine r_letI hF (fun I14 hF => ?_)
        refine r_aload_n dX11_prove_100 rfl rfl ?_
        refine r_getP lk_X11_52 (ln_64 hL) (pp_64_10 hL) dX11_prove_101 ?_
        refine r_iload_n dX11_prove_104 rfl rfl ?_
        refine r_iconst (v := 1) dX11_prove_105 (by decide) ?_
        refine r_iadd dX11_prove_106 ?_
        refine r_aload_n dX11_prove_107 rfl rfl ?_
        refine r_getP lk_X11_58 (ln_64 hL) (pp_64_12 hL) dX11_prove_108 ?_
        refine r_getI lk_X11_162 (ln_89 hL) dX11_prove_111 ?_
        obtain ⟨g15, hF⟩ := gd hF
        refine r_iast (ln_88 hL) (by rw [(nl_88 hL)]; exact g15) dX11_prove_114 ?_
        refine r_letI hF (fun I16 hF => ?_)
        refine r_aload_n dX11_prove_115 rfl rfl ?_
        refine r_getP lk_X11_52 (ln_64 hL) (pp_64_10 hL) dX11_prove_116 ?_
        refine r_iload_n dX11_prove_119 rfl rfl ?_
        refine r_iconst (v := 2) dX11_prove_120 (by decide) ?_
        refine r_iadd dX11_prove_121 ?_
        refine r_aload_n dX11_prove_122 rfl rfl ?_
        refine r_getP lk_X11_58 (ln_64 hL) (pp_64_12 hL) dX11_prove_123 ?_
        refine r_getI lk_X11_165 (ln_89 hL) dX11_prove_126 ?_
        obtain ⟨g17, hF⟩ := gd hF
        refine r_iast (ln_88 hL) (by rw [(nl_88 hL)]; exact g17) dX11_prove_129 ?_
        refine r_letI hF (fun I18 hF => ?_)
        refine r_aload_n dX11_prove_130 rfl rfl ?_
        refine r_dup dX11_prove_131 rfl ?_
        refine r_getI lk_X11_91 (ln_64 hL) dX11_prove_132 ?_
        refine r_iconst (v := 1) dX11_prove_135 (by decide) ?_
        refine r_iadd dX11_prove_136 ?_
        refine r_putI lk_X11_91 (Or.inl rfl) (ln_64 hL) rfl rfl dX11_prove_137 ?_
        refine r_letI hF (fun I19 hF => ?_)
        refine r_goto (tgt := 48) dX11_prove_140 (by decide) ?_
        refine r_sub (ls' := [(0, .ref 64), (1, .int u1)]) [1, 2] rfl ?_
        exact ih I19 hF
def F_X11_prove (N : Nat) (T : TM) (I : IM) (P : PM) (p1 : Int32) : Option (Int32 × IM × PM) := (if p1 < 1 then (some ((-1), I, P)) else (if p1 ≤ 20 then (osel (P 69 0) (some ((-4), I, P)) (fun c3 => ((F_X1_copyFrom I P 89 69).bind (fun x5 => (letb (up2 x5.1 64 11 0) (fun I6 : IM => (G_X11_prove_48 N T x5.2 p1 N I6))))))) else (some ((-1), I, P))))
set_option maxHeartbeats 4000000 in
theorem ok_X11_prove {E : GE} {T : TM} {I : IM} {J : JM} {P : PM} {p1 : Int32} {N : Nat} {x : Int32 × IM × PM} (hL : LOK T P) (hF : F_X11_prove N T I P p1 = some x) : CtrP E (LOK T x.2.2) mX11_prove 3 0 0 [.ref 64, .int p1] T I J P (some (.int x.1)) T x.2.1 J x.2.2 := by
  unfold F_X11_prove at hF
  refine ctrP_intro (by decide) (Nat.le_of_ble_eq_true rfl) ?_
  refine r_sub (ls' := [(1, .int p1), (0, .ref 64)]) [1, 0] rfl ?_
  refine r_iload_n dX11_prove_0 rfl rfl ?_
  refine r_iconst (v := 1) dX11_prove_1 (by decide) ?_
  refine r_icmp_lt (tgt := 11) dX11_prove_2 (by decide) (fun h1 => ?_) (fun h1 => ?_)
  · have hF := tw hF h1
    refine r_iconst (v := (-1)) dX11_prove_11 (by decide) ?_
    obtain rfl := Option.some.inj hF
    exact p_ireturn (x := (-1)) rfl rfl dX11_prove_12 hL (Nat.le_of_ble_eq_true rfl) (Nat.le_of_ble_eq_true rfl)
  · have hF := fw hF h1
    refine r_iload_n dX11_prove_5 rfl rfl ?_
    refine r_bipush (v := 20) dX11_prove_6 (by decide) ?_
    refine r_icmp_le (tgt := 13) dX11_prove_8 (by decide) (fun h2 => ?_) (fun h2 => ?_)
    · have hF := tw hF h2
      refine r_aload_n dX11_prove_13 rfl rfl ?_
      refine r_getP lk_X11_10 (ln_64 hL) (pp_64_0 hL) dX11_prove_14 ?_
      refine r_getP lk_X11_133 (ln_65 hL) (pp_65_4 hL) dX11_prove_17 ?_
      rcases q4 : (P 69 0) with _ | c3
      · have hF := (osel_n q4).symm.trans hF
        refine r_getN lk_X11_136 (ln_69 hL) q4 dX11_prove_20 ?_
        refine r_ifnonnullN dX11_prove_23 ?_
        refine r_bipush (v := (-4)) dX11_prove_26 (by decide) ?_
        obtain rfl := Option.some.inj hF
        exact p_ireturn (x := (-4)) rfl rfl dX11_prove_28 hL (Nat.le_of_ble_eq_true rfl) (Nat.le_of_ble_eq_true rfl)
      · have hF := (osel_s q4).symm.trans hF
        refine r_getP lk_X11_136 (ln_69 hL) q4 dX11_prove_20 ?_
        refine r_ifnonnull (tgt := 29) dX11_prove_23 (by decide) ?_
        refine r_aload_n dX11_prove_29 rfl rfl ?_
        refine r_getP lk_X11_58 (ln_64 hL) (pp_64_12 hL) dX11_prove_30 ?_
        refine r_aload_n dX11_prove_33 rfl rfl ?_
        refine r_getP lk_X11_10 (ln_64 hL) (pp_64_0 hL) dX11_prove_34 ?_
        refine r_getP lk_X11_133 (ln_65 hL) (pp_65_4 hL) dX11_prove_37 ?_
        obtain ⟨x5, hx5, hF⟩ := bnd hF
        refine cp_virt_v (As := [.ref 69]) mi_X1_copyFrom kw_254 kw_255 kw_731 rfl (by decide) (ln_89 hL) (ok_X1_copyFrom hL (ln_89 hL) (ln_69 hL) hx5) rfl rfl (Nat.le_of_ble_eq_true rfl) ⟨Nat.le_of_ble_eq_true rfl, Nat.le_of_ble_eq_true rfl⟩ ⟨Nat.le_of_ble_eq_true rfl, Nat.le_of_ble_eq_true rfl⟩ dX11_prove_40 ?_
        intro hL
        refine r_aload_n dX11_prove_43 rfl rfl ?_
        refine r_iconst (v := 0) dX11_prove_44 (by decide) ?_
        refine r_putI lk_X11_91 (Or.inl rfl) (ln_64 hL) rfl rfl dX11_prove_45 ?_
        refine r_letI hF (fun I6 hF => ?_)
        refine r_sub (ls' := [(0, .ref 64), (1, .int p1)]) [1, 0] rfl ?_
        exact okG_X11_prove_48 hL   N I6 hF
    · have hF := fw hF h2
      refine r_iconst (v := (-1)) dX11_prove_11 (by decide) ?_
      obtain rfl := Option.some.inj hF
      exact p_ireturn (x := (-1)) rfl rfl dX11_prove_12 hL (Nat.le_of_ble_eq_true rfl) (Nat.le_of_ble_eq_true rfl)
def F_X11_isRowPart (I : IM) (p1 : Int32) (p2 : Int32) : Int32 := (if p1 < 0 then 0 else (if (I 64 11) ≤ p1 then 0 else (if p2 < 0 then 0 else (if 3 ≤ p2 then 0 else 1))))
set_option maxHeartbeats 4000000 in
theorem ok_X11_isRowPart {E : GE} {T : TM} {I : IM} {J : JM} {P : PM} {p1 : Int32} {p2 : Int32} (hL : LOK T P) : Ctr E mX11_isRowPart 0 0 0 [.ref 64, .int p1, .int p2] T I J P (some (.int (F_X11_isRowPart I p1 p2))) T I J P := by
  generalize hF : F_X11_isRowPart I p1 p2 = r
  unfold F_X11_isRowPart at hF
  refine ctr_intro rfl (by decide +kernel) (Nat.le_of_ble_eq_true rfl) ?_
  refine r_sub (ls' := [(2, .int p2), (1, .int p1), (0, .ref 64)]) [2, 1, 0] rfl ?_
  refine r_iload_n dX11_isRowPart_0 rfl rfl ?_
  refine r_if_lt (tgt := 25) dX11_isRowPart_1 (by decide) (fun h1 => ?_) (fun h1 => ?_)
  · have hF := tw hF h1
    refine r_iconst (v := 0) dX11_isRowPart_25 (by decide) ?_
    obtain rfl := hF
    exact r_ireturn (x := 0) rfl rfl dX11_isRowPart_26 (Nat.le_of_ble_eq_true rfl) (Nat.le_of_ble_eq_true rfl)
  · have hF := fw hF h1
    refine r_iload_n dX11_isRowPart_4 rfl rfl ?_
    refine r_aload_n dX11_isRowPart_5 rfl rfl ?_
    refine r_getI lk_X11_91 (ln_64 hL) dX11_isRowPart_6 ?_
    refine r_icmp_ge (tgt := 25) dX11_isRowPart_9 (by decide) (fun h2 => ?_) (fun h2 => ?_)
    · have hF := tw hF h2
      refine r_iconst (v := 0) dX11_isRowPart_25 (by decide) ?_
      obtain rfl := hF
      exact r_ireturn (x := 0) rfl rfl dX11_isRowPart_26 (Nat.le_of_ble_eq_true rfl) (Nat.le_of_ble_eq_true rfl)
    · have hF := fw hF h2
      refine r_iload_n dX11_isRowPart_12 rfl rfl ?_
      refine r_if_lt (tgt := 25) dX11_isRowPart_13 (by decide) (fun h3 => ?_) (fun h3 => ?_)
      · have hF := tw hF h3
        refine r_iconst (v := 0) dX11_isRowPart_25 (by decide) ?_
        obtain rfl := hF
        exact r_ireturn (x := 0) rfl rfl dX11_isRowPart_26 (Nat.le_of_ble_eq_true rfl) (Nat.le_of_ble_eq_true rfl)
      · have hF := fw hF h3
        refine r_iload_n dX11_isRowPart_16 rfl rfl ?_
        refine r_iconst (v := 3) dX11_isRowPart_17 (by decide) ?_
        refine r_icmp_ge (tgt := 25) dX11_isRowPart_18 (by decide) (fun h4 => ?_) (fun h4 => ?_)
        · have hF := tw hF h4
          refine r_iconst (v := 0) dX11_isRowPart_25 (by decide) ?_
          obtain rfl := hF
          exact r_ireturn (x := 0) rfl rfl dX11_isRowPart_26 (Nat.le_of_ble_eq_true rfl) (Nat.le_of_ble_eq_true rfl)
        · have hF := fw hF h4
          refine r_iconst (v := 1) dX11_isRowPart_21 (by decide) ?_
          refine r_goto (tgt := 26) dX11_isRowPart_22 (by decide) ?_
          obtain rfl := hF
          exact r_ireturn (x := 1) rfl rfl dX11_isRowPart_26 (Nat.le_of_ble_eq_true rfl) (Nat.le_of_ble_eq_true rfl)
theorem nz_X11_isRowPart (I : IM) (p1 : Int32) (p2 : Int32) : narrow .boolean (.int (F_X11_isRowPart I p1 p2)) = .int (F_X11_isRowPart I p1 p2) := by
  unfold F_X11_isRowPart
  repeat' split
  all_goals first | rfl
def F_X11_row (I : IM) (p1 : Int32) (p2 : Int32) : Option (Int32) := (if (F_X11_isRowPart I p1 p2) = 0 then (some (-2147483648)) else (if inb ((p1 * 3) + p2) 60 = true then (some (I 88 ((p1 * 3) + p2).toNatClampNeg)) else none))
set_option maxHeartbeats 4000000 in
theorem ok_X11_row {E : GE} {T : TM} {I : IM} {J : JM} {P : PM} {p1 : Int32} {p2 : Int32} {x : Int32} (hL : LOK T P) (hF : F_X11_row I p1 p2 = some x) : Ctr E mX11_row 1 0 0 [.ref 64, .int p1, .int p2] T I J P (some (.int x)) T I J P := by
  unfold F_X11_row at hF
  refine ctr_intro rfl (by decide +kernel) (Nat.le_of_ble_eq_true rfl) ?_
  refine r_sub (ls' := [(2, .int p2), (1, .int p1), (0, .ref 64)]) [2, 1, 0] rfl ?_
  refine r_aload_n dX11_row_0 rfl rfl ?_
  refine r_iload_n dX11_row_1 rfl rfl ?_
  refine r_iload_n dX11_row_2 rfl rfl ?_
  refine c_virt_i (As := [.int p1, .int p2]) mi_X11_isRowPart kw_738 ks_20 kw_736 rfl (by decide) (ln_64 hL) (ok_X11_isRowPart hL  (p1 := p1) (p2 := p2)) rfl rfl (Nat.le_of_ble_eq_true rfl) ⟨Nat.le_of_ble_eq_true rfl, Nat.le_of_ble_eq_true rfl⟩ ⟨Nat.le_of_ble_eq_true rfl, Nat.le_of_ble_eq_true rfl⟩ dX11_row_3 ?_
  refine r_if_eq (tgt := 22) dX11_row_6 (by decide) (fun h1 => ?_) (fun h1 => ?_)
  · have hF := tw hF h1
    refine r_ldc dX11_row_22 kw_621 ?_
    obtain rfl := Option.some.inj hF
    exact r_ireturn (x := (-2147483648)) rfl rfl dX11_row_24 (Nat.le_of_ble_eq_true rfl) (Nat.le_of_ble_eq_true rfl)
  · have hF := fw hF h1
    refine r_aload_n dX11_row_9 rfl rfl ?_
    refine r_getP lk_X11_52 (ln_64 hL) (pp_64_10 hL) dX11_row_10 ?_
    refine r_iload_n dX11_row_13 rfl rfl ?_
    refine r_iconst (v := 3) dX11_row_14 (by decide) ?_
    refine r_imul dX11_row_15 ?_
    refine r_iload_n dX11_row_16 rfl rfl ?_
    refine r_iadd dX11_row_17 ?_
    obtain ⟨g2, hF⟩ := gd hF
    refine r_iald (ln_88 hL) (by rw [(nl_88 hL)]; exact g2) dX11_row_18 ?_
    refine r_goto (tgt := 24) dX11_row_19 (by decide) ?_
    obtain rfl := Option.some.inj hF
    exact r_ireturn (x := (I 88 ((p1 * 3) + p2).toNatClampNeg)) rfl rfl dX11_row_24 (Nat.le_of_ble_eq_true rfl) (Nat.le_of_ble_eq_true rfl)
def F_X11_alterRow (I : IM) (p1 : Int32) (p2 : Int32) (p3 : Int32) : Option (Int32 × IM) := (if (F_X11_isRowPart I p1 p2) = 0 then (some ((-2147483648), I)) else (if inb ((p1 * 3) + p2) 60 = true then (letb (I 88 ((p1 * 3) + p2).toNatClampNeg) (fun y3 : Int32 => (if inb ((p1 * 3) + p2) 60 = true then (letb (up2 I 88 ((p1 * 3) + p2).toNatClampNeg p3) (fun I5 : IM => (some (y3, I5)))) else none))) else none))
set_option maxHeartbeats 4000000 in
theorem ok_X11_alterRow {E : GE} {T : TM} {I : IM} {J : JM} {P : PM} {p1 : Int32} {p2 : Int32} {p3 : Int32} {x : Int32 × IM} (hL : LOK T P) (hF : F_X11_alterRow I p1 p2 p3 = some x) : Ctr E mX11_alterRow 1 0 0 [.ref 64, .int p1, .int p2, .int p3] T I J P (some (.int x.1)) T x.2 J P := by
  unfold F_X11_alterRow at hF
  refine ctr_intro rfl (by decide +kernel) (Nat.le_of_ble_eq_true rfl) ?_
  refine r_sub (ls' := [(3, .int p3), (2, .int p2), (1, .int p1), (0, .ref 64)]) [3, 2, 1, 0] rfl ?_
  refine r_aload_n dX11_alterRow_0 rfl rfl ?_
  refine r_iload_n dX11_alterRow_1 rfl rfl ?_
  refine r_iload_n dX11_alterRow_2 rfl rfl ?_
  refine c_virt_i (As := [.int p1, .int p2]) mi_X11_isRowPart kw_738 ks_20 kw_736 rfl (by decide) (ln_64 hL) (ok_X11_isRowPart hL  (p1 := p1) (p2 := p2)) rfl rfl (Nat.le_of_ble_eq_true rfl) ⟨Nat.le_of_ble_eq_true rfl, Nat.le_of_ble_eq_true rfl⟩ ⟨Nat.le_of_ble_eq_true rfl, Nat.le_of_ble_eq_true rfl⟩ dX11_alterRow_3 ?_
  refine r_if_ne (tgt := 12) dX11_alterRow_6 (by decide) (fun h1 => ?_) (fun h1 => ?_)
  · have hF := fw hF h1
    refine r_aload_n dX11_alterRow_12 rfl rfl ?_
    refine r_getP lk_X11_52 (ln_64 hL) (pp_64_10 hL) dX11_alterRow_13 ?_
    refine r_iload_n dX11_alterRow_16 rfl rfl ?_
    refine r_iconst (v := 3) dX11_alterRow_17 (by decide) ?_
    refine r_imul dX11_alterRow_18 ?_
    refine r_iload_n dX11_alterRow_19 rfl rfl ?_
    refine r_iadd dX11_alterRow_20 ?_
    obtain ⟨g2, hF⟩ := gd hF
    refine r_iald (ln_88 hL) (by rw [(nl_88 hL)]; exact g2) dX11_alterRow_21 ?_
    refine r_letV hF (fun y3 hF => ?_)
    refine r_istore (ls' := [(4, .int y3), (3, .int p3), (2, .int p2), (1, .int p1), (0, .ref 64)]) dX11_alterRow_22 (by decide) rfl ?_
    refine r_aload_n dX11_alterRow_24 rfl rfl ?_
    refine r_getP lk_X11_52 (ln_64 hL) (pp_64_10 hL) dX11_alterRow_25 ?_
    refine r_iload_n dX11_alterRow_28 rfl rfl ?_
    refine r_iconst (v := 3) dX11_alterRow_29 (by decide) ?_
    refine r_imul dX11_alterRow_30 ?_
    refine r_iload_n dX11_alterRow_31 rfl rfl ?_
    refine r_iadd dX11_alterRow_32 ?_
    refine r_iload_n dX11_alterRow_33 rfl rfl ?_
    obtain ⟨g4, hF⟩ := gd hF
    refine r_iast (ln_88 hL) (by rw [(nl_88 hL)]; exact g4) dX11_alterRow_34 ?_
    refine r_letI hF (fun I5 hF => ?_)
    refine r_iload dX11_alterRow_35 rfl ?_
    obtain rfl := Option.some.inj hF
    exact r_ireturn (x := y3) rfl rfl dX11_alterRow_37 (Nat.le_of_ble_eq_true rfl) (Nat.le_of_ble_eq_true rfl)
  · have hF := tw hF h1
    refine r_ldc dX11_alterRow_9 kw_621 ?_
    obtain rfl := Option.some.inj hF
    exact r_ireturn (x := (-2147483648)) rfl rfl dX11_alterRow_11 (Nat.le_of_ble_eq_true rfl) (Nat.le_of_ble_eq_true rfl)
def G_X11_judge_32 (N : Nat) (T : TM) (P : PM) : Nat → Int32 → IM → Option (Int32 × IM × PM)
  | 0, _, _ => none
  | n + 1, u1, Iv => (if (Iv 64 11) ≤ u1 then (some (0, Iv, P)) else (if (F_X1_landed Iv 89) = 0 then ((F_X1_step T Iv P 89 67).bind (fun x6 => (letb (u1 * 3) (fun y7 : Int32 => (if inb y7 60 = true then (if (x6 88 y7.toNatClampNeg) = (x6 89 3) then (if inb (y7 + 1) 60 = true then (if (x6 88 (y7 + 1).toNatClampNeg) = (x6 89 4) then (if inb (y7 + 2) 60 = true then (if (x6 88 (y7 + 2).toNatClampNeg) = (x6 89 5) then (G_X11_judge_32 N T P n (u1 + 1) x6) else (some ((u1 + 1), x6, P))) else none) else (some ((u1 + 1), x6, P))) else none) else (some ((u1 + 1), x6, P))) else none))))) else (some ((u1 + 1), Iv, P))))
set_option maxHeartbeats 4000000 in
theorem okG_X11_judge_32 {E : GE} {T : TM} {J : JM} {P : PM} {N : Nat} {x : Int32 × IM × PM} (hL : LOK T P) : ∀ (n : Nat) (u1 : Int32) (Iv : IM), G_X11_judge_32 N T P n u1 Iv = some x → WW E mX11_judge (RM 3 0 0) (ZP E (LOK T x.2.2) 0 0 (some (.int x.1)) T x.2.1 J x.2.2) 0 0 T Iv J P 32 [(0, .ref 64), (1, .int u1)] [] := by
  intro n
  induction n with
  | zero =>
    intro u1 Iv hF
    cases hF
  | succ n ih =>
    intro u1 Iv hF
    rw [G_X11_judge_32] at hF
    refine r_iload_n dX11_judge_32 rfl rfl ?_
    refine r_aload_n dX11_judge_33 rfl rfl ?_
    refine r_getI lk_X11_91 (ln_64 hL) dX11_judge_34 ?_
    refine r_icmp_ge (tgt := 134) dX11_judge_37 (by decide) (fun h4 => ?_) (fun h4 => ?_)
    · have hF := tw hF h4
      refine r_iconst (v := 0) dX11_judge_134 (by decide) ?_
      obtain rfl := Option.some.inj hF
      exact p_ireturn (x := 0) rfl rfl dX11_judge_135 hL (Nat.le_of_ble_eq_true rfl) (Nat.le_of_ble_eq_true rfl)
    · have hF := fw hF h4
      refine r_aload_n dX11_judge_40 rfl rfl ?_
      refine r_getP lk_X11_58 (ln_64 hL) (pp_64_12 hL) dX11_judge_41 ?_
      refine c_virt_i (As := []) mi_X1_landed kw_556 kw_557 kw_555 rfl (by decide) (ln_89 hL) (ok_X1_landed hL (ln_89 hL) (a := 89)) rfl rfl (Nat.le_of_ble_eq_true rfl) ⟨Nat.le_of_ble_eq_true rfl, Nat.le_of_ble_eq_true rfl⟩ ⟨Nat.le_of_ble_eq_true rfl, Nat.le_of_ble_eq_true rfl⟩ dX11_judge_44 ?_
      refine r_if_eq (tgt := 54) dX11_judge_47 (by decide) (fun h5 => ?_) (fun h5 => ?_)
      · have hF := tw hF h5
        refine r_aload_n dX11_judge_54 rfl rfl ?_
        refine r_getP lk_X11_58 (ln_64 hL) (pp_64_12 hL) dX11_judge_55 ?_
        refine r_aload_n dX11_judge_58 rfl rfl ?_
        refine r_getP lk_X11_10 (ln_64 hL) (pp_64_0 hL) dX11_judge_59 ?_
        refine r_getP lk_X11_120 (ln_65 hL) (pp_65_2 hL) dX11_judge_62 ?_
        obtain ⟨x6, hx6, hF⟩ := bnd hF
        refine c_virt_v (As := [.ref 67]) mi_X1_step kw_560 kw_561 kw_559 rfl (by decide) (ln_89 hL) (ok_X1_step hL (ln_89 hL) (ln_67 hL) (nl_67 hL) hx6) rfl rfl (Nat.le_of_ble_eq_true rfl) ⟨Nat.le_of_ble_eq_true rfl, Nat.le_of_ble_eq_true rfl⟩ ⟨Nat.le_of_ble_eq_true rfl, Nat.le_of_ble_eq_true rfl⟩ dX11_judge_65 ?_
        refine r_iload_n dX11_judge_68 rfl rfl ?_
        refine r_iconst (v := 3) dX11_judge_69 (by decide) ?_
        refine r_imul dX11_judge_70 ?_
        refine r_letV hF (fun y7 hF => ?_)
        refine r_istore_n (ls' := [(2, .int y7), (0, .ref 64), (1, .int u1)]) dX11_judge_71 rfl (by decide) rfl ?_
        refine r_aload_n dX11_judge_72 rfl rfl ?_
        refine r_getP lk_X11_52 (ln_64 hL) (pp_64_10 hL) dX11_judge_73 ?_
        refine r_iload_n dX11_judge_76 rfl rfl ?_
        obtain ⟨g8, hF⟩ := gd hF
        refine r_iald (ln_88 hL) (by rw [(nl_88 hL)]; exact g8) dX11_judge_77 ?_
        refine r_aload_n dX11_judge_78 rfl rfl ?_
        refine r_getP lk_X11_58 (ln_64 hL) (pp_64_12 hL) dX11_judge_79 ?_
        refine r_getI lk_X11_159 (ln_89 hL) dX11_judge_82 ?_
        refine r_icmp_ne (tgt := 124) dX11_judge_85 (by decide) (fun h9 => ?_) (fun h9 => ?_)
        · have hF := fw hF h9
          refine r_iload_n dX11_judge_124 rfl rfl ?_
          refine r_iconst (v := 1) dX11_judge_125 (by decide) ?_
          refine r_iadd dX11_judge_126 ?_
          obtain rfl := Option.some.inj hF
          exact p_ireturn (x := (u1 + 1)) rfl rfl dX11_judge_127 hL (Nat.le_of_ble_eq_true rfl) (Nat.le_of_ble_eq_true rfl)
        · have hF := tw hF h9
          refine r_aload_n dX11_judge_88 rfl rfl ?_
          refine r_getP lk_X11_52 (ln_64 hL) (pp_64_10 hL) dX11_judge_89 ?_
          refine r_iload_n dX11_judge_92 rfl rfl ?_
          refine r_iconst (v := 1) dX11_judge_93 (by decide) ?_
          refine r_iadd dX11_judge_94 ?_
          obtain ⟨g10, hF⟩ := gd hF
          refine r_iald (ln_88 hL) (by rw [(nl_88 hL)]; exact g10) dX11_judge_95 ?_
          refine r_aload_n dX11_judge_96 rfl rfl ?_
          refine r_getP lk_X11_58 (ln_64 hL) (pp_64_12 hL) dX11_judge_97 ?_
          refine r_getI lk_X11_162 (ln_89 hL) dX11_judge_100 ?_
          refine r_icmp_ne (tgt := 124) dX11_judge_103 (by decide) (fun h11 => ?_) (fun h11 => ?_)
          · have hF := fw hF h11
            refine r_iload_n dX11_judge_124 rfl rfl ?_
            refine r_iconst (v := 1) dX11_judge_125 (by decide) ?_
            refine r_iadd dX11_judge_126 ?_
            obtain rfl := Option.some.inj hF
            exact p_ireturn (x := (u1 + 1)) rfl rfl dX11_judge_127 hL (Nat.le_of_ble_eq_true rfl) (Nat.le_of_ble_eq_true rfl)
          · have hF := tw hF h11
            refine r_aload_n dX11_judge_106 rfl rfl ?_
            refine r_getP lk_X11_52 (ln_64 hL) (pp_64_10 hL) dX11_judge_107 ?_
            refine r_iload_n dX11_judge_110 rfl rfl ?_
            refine r_iconst (v := 2) dX11_judge_111 (by decide) ?_
            refine r_iadd dX11_judge_112 ?_
            obtain ⟨g12, hF⟩ := gd hF
            refine r_iald (ln_88 hL) (by rw [(nl_88 hL)]; exact g12) dX11_judge_113 ?_
            refine r_aload_n dX11_judge_114 rfl rfl ?_
            refine r_getP lk_X11_58 (ln_64 hL) (pp_64_12 hL) dX11_judge_115 ?_
            refine r_getI lk_X11_165 (ln_89 hL) dX11_judge_118 ?_
            refine r_icmp_eq (tgt := 128) dX11_judge_121 (by decide) (fun h13 => ?_) (fun h13 => ?_)
            · have hF := tw hF h13
              refine r_iinc (v := (u1 + 1)) (ls' := [(1, .int (u1 + 1)), (2, .int y7), (0, .ref 64)]) dX11_judge_128 rfl rfl (by decide) rfl ?_
              refine r_goto (tgt := 32) dX11_judge_131 (by decide) ?_
              refine r_sub (ls' := [(0, .ref 64), (1, .int (u1 + 1))]) [2, 0] rfl ?_
              exact ih (u1 + 1) x6 hF
            · have hF := fw hF h13
              refine r_iload_n dX11_judge_124 rfl rfl ?_
              refine r_iconst (v := 1) dX11_judge_125 (by decide) ?_
              refine r_iadd dX11_judge_126 ?_
              obtain rfl := Option.some.inj hF
              exact p_ireturn (x := (u1 + 1)) rfl rfl dX11_judge_127 hL (Nat.le_of_ble_eq_true rfl) (Nat.le_of_ble_eq_true rfl)
      · have hF := fw hF h5
        refine r_iload_n dX11_judge_50 rfl rfl ?_
        refine r_iconst (v := 1) dX11_judge_51 (by decide) ?_
        refine r_iadd dX11_judge_52 ?_
        obtain rfl := Option.some.inj hF
        exact p_ireturn (x := (u1 + 1)) rfl rfl dX11_judge_53 hL (Nat.le_of_ble_eq_true rfl) (Nat.le_of_ble_eq_true rfl)
def F_X11_judge (N : Nat) (T : TM) (I : IM) (P : PM) : Option (Int32 × IM × PM) := (osel (P 69 0) (some ((-4), I, P)) (fun c1 => ((F_X1_copyFrom I P 89 69).bind (fun x3 => (G_X11_judge_32 N T x3.2 N 0 x3.1)))))
set_option maxHeartbeats 4000000 in
theorem ok_X11_judge {E : GE} {T : TM} {I : IM} {J : JM} {P : PM} {N : Nat} {x : Int32 × IM × PM} (hL : LOK T P) (hF : F_X11_judge N T I P = some x) : CtrP E (LOK T x.2.2) mX11_judge 3 0 0 [.ref 64] T I J P (some (.int x.1)) T x.2.1 J x.2.2 := by
  unfold F_X11_judge at hF
  refine ctrP_intro (by decide) (Nat.le_of_ble_eq_true rfl) ?_
  refine r_sub (ls' := [(0, .ref 64)]) [0] rfl ?_
  refine r_aload_n dX11_judge_0 rfl rfl ?_
  refine r_getP lk_X11_10 (ln_64 hL) (pp_64_0 hL) dX11_judge_1 ?_
  refine r_getP lk_X11_133 (ln_65 hL) (pp_65_4 hL) dX11_judge_4 ?_
  rcases q2 : (P 69 0) with _ | c1
  · have hF := (osel_n q2).symm.trans hF
    refine r_getN lk_X11_136 (ln_69 hL) q2 dX11_judge_7 ?_
    refine r_ifnonnullN dX11_judge_10 ?_
    refine r_bipush (v := (-4)) dX11_judge_13 (by decide) ?_
    obtain rfl := Option.some.inj hF
    exact p_ireturn (x := (-4)) rfl rfl dX11_judge_15 hL (Nat.le_of_ble_eq_true rfl) (Nat.le_of_ble_eq_true rfl)
  · have hF := (osel_s q2).symm.trans hF
    refine r_getP lk_X11_136 (ln_69 hL) q2 dX11_judge_7 ?_
    refine r_ifnonnull (tgt := 16) dX11_judge_10 (by decide) ?_
    refine r_aload_n dX11_judge_16 rfl rfl ?_
    refine r_getP lk_X11_58 (ln_64 hL) (pp_64_12 hL) dX11_judge_17 ?_
    refine r_aload_n dX11_judge_20 rfl rfl ?_
    refine r_getP lk_X11_10 (ln_64 hL) (pp_64_0 hL) dX11_judge_21 ?_
    refine r_getP lk_X11_133 (ln_65 hL) (pp_65_4 hL) dX11_judge_24 ?_
    obtain ⟨x3, hx3, hF⟩ := bnd hF
    refine cp_virt_v (As := [.ref 69]) mi_X1_copyFrom kw_254 kw_255 kw_731 rfl (by decide) (ln_89 hL) (ok_X1_copyFrom hL (ln_89 hL) (ln_69 hL) hx3) rfl rfl (Nat.le_of_ble_eq_true rfl) ⟨Nat.le_of_ble_eq_true rfl, Nat.le_of_ble_eq_true rfl⟩ ⟨Nat.le_of_ble_eq_true rfl, Nat.le_of_ble_eq_true rfl⟩ dX11_judge_27 ?_
    intro hL
    refine r_iconst (v := 0) dX11_judge_30 (by decide) ?_
    refine r_istore_n (ls' := [(1, .int 0), (0, .ref 64)]) dX11_judge_31 rfl (by decide) rfl ?_
    refine r_sub (ls' := [(0, .ref 64), (1, .int 0)]) [1, 0] rfl ?_
    exact okG_X11_judge_32 hL   N 0 x3.1 hF
def G_X3_become_12 (N : Nat) (I : IM) (s : Nat) : Nat → Int32 → JM → Option (IM × JM)
  | 0, _, _ => none
  | n + 1, u3, Jv => (if 40 ≤ u3 then (some (I, Jv)) else (if inb u3 40 = true then (letb (up2 Jv (s + 1) u3.toNatClampNeg 0) (fun J6 : JM => (G_X3_become_12 N I s n (u3 + 1) J6))) else none))
set_option maxHeartbeats 4000000 in
theorem okG_X3_become_12 {E : GE} {T : TM} {I : IM} {P : PM} {s : Nat} {N : Nat} {x : IM × JM} (hL : LOK T P) (hs : isS s) : ∀ (n : Nat) (u3 : Int32) (Jv : JM), G_X3_become_12 N I s n u3 Jv = some x → WW E mX3_become (RM 0 0 0) (ZM E 0 0 none T x.1 x.2 P) 0 0 T I Jv P 12 [(0, .ref s), (3, .int u3)] [] := by
  intro n
  induction n with
  | zero =>
    intro u3 Jv hF
    cases hF
  | succ n ih =>
    intro u3 Jv hF
    rw [G_X3_become_12] at hF
    refine r_iload_n dX3_become_12 rfl rfl ?_
    refine r_bipush (v := 40) dX3_become_13 (by decide) ?_
    refine r_icmp_ge (tgt := 31) dX3_become_15 (by decide) (fun h4 => ?_) (fun h4 => ?_)
    · have hF := tw hF h4
      obtain rfl := Option.some.inj hF
      exact r_return rfl dX3_become_31 (Nat.le_of_ble_eq_true rfl) (Nat.le_of_ble_eq_true rfl)
    · have hF := fw hF h4
      refine r_aload_n dX3_become_18 rfl rfl ?_
      refine r_getP lk_X3_15 (sn_0 hL hs) (sp_2 hL hs) dX3_become_19 ?_
      refine r_iload_n dX3_become_22 rfl rfl ?_
      refine r_lconst (v := 0) dX3_become_23 (by decide) ?_
      obtain ⟨g5, hF⟩ := gd hF
      refine r_last (sn_1 hL hs) (by rw [(sl_1 hL hs)]; exact g5) dX3_become_24 ?_
      refine r_letJ hF (fun J6 hF => ?_)
      refine r_iinc (v := (u3 + 1)) (ls' := [(3, .int (u3 + 1)), (0, .ref s)]) dX3_become_25 rfl rfl (by decide) rfl ?_
      refine r_goto (tgt := 12) dX3_become_28 (by decide) ?_
      refine r_sub (ls' := [(0, .ref s), (3, .int (u3 + 1))]) [1, 0] rfl ?_
      exact ih (u3 + 1) J6 hF
def F_X3_become (N : Nat) (I : IM) (J : JM) (s : Nat) (p1 : Int32) (p2 : Int32) : Option (IM × JM) := (letb (up2 I s 0 p1) (fun I1 : IM => (letb (up2 I1 s 1 p2) (fun I2 : IM => (G_X3_become_12 N I2 s N 0 J)))))
set_option maxHeartbeats 4000000 in
theorem ok_X3_become {E : GE} {T : TM} {I : IM} {J : JM} {P : PM} {s : Nat} {p1 : Int32} {p2 : Int32} {N : Nat} {x : IM × JM} (hL : LOK T P) (hs : isS s) (hF : F_X3_become N I J s p1 p2 = some x) : Ctr E mX3_become 0 0 0 [.ref s, .int p1, .int p2] T I J P none T x.1 x.2 P := by
  unfold F_X3_become at hF
  refine ctr_intro rfl (by decide +kernel) (Nat.le_of_ble_eq_true rfl) ?_
  refine r_sub (ls' := [(2, .int p2), (1, .int p1), (0, .ref s)]) [2, 1, 0] rfl ?_
  refine r_aload_n dX3_become_0 rfl rfl ?_
  refine r_iload_n dX3_become_1 rfl rfl ?_
  refine r_putI lk_X3_9 (Or.inl rfl) (sn_0 hL hs) rfl rfl dX3_become_2 ?_
  refine r_letI hF (fun I1 hF => ?_)
  refine r_aload_n dX3_become_5 rfl rfl ?_
  refine r_iload_n dX3_become_6 rfl rfl ?_
  refine r_putI lk_X3_19 (Or.inl rfl) (sn_0 hL hs) rfl rfl dX3_become_7 ?_
  refine r_letI hF (fun I2 hF => ?_)
  refine r_iconst (v := 0) dX3_become_10 (by decide) ?_
  refine r_istore_n (ls' := [(3, .int 0), (2, .int p2), (1, .int p1), (0, .ref s)]) dX3_become_11 rfl (by decide) rfl ?_
  refine r_sub (ls' := [(0, .ref s), (3, .int 0)]) [3, 0] rfl ?_
  exact okG_X3_become_12 hL hs  N 0 J hF
def F_X11_sheet (N : Nat) (I : IM) (J : JM) (P : PM) (p1 : Int32) (p2 : Int32) (p3 : Int32) : Option (Int32 × IM × JM) := ((F_X11_sheetAt P p1).bind (fun x1 => (osel x1 (some ((-1), I, J)) (fun c2 => (if isSb c2 = true then (if p2 < (-1) then (some ((-1), I, J)) else (if p2 < 4 then (if p2 = (-1) then ((F_X3_become N I J c2 (-1) 0).bind (fun x10 => (some (1, x10.1, x10.2)))) else (if p3 ≤ 40 then (if 0 ≤ p3 then ((F_X3_become N I J c2 p2 p3).bind (fun x9 => (some (1, x9.1, x9.2)))) else (some ((-14), I, J))) else (some ((-1), I, J)))) else (some ((-1), I, J)))) else none)))))
set_option maxHeartbeats 4000000 in
theorem ok_X11_sheet {E : GE} {T : TM} {I : IM} {J : JM} {P : PM} {p1 : Int32} {p2 : Int32} {p3 : Int32} {N : Nat} {x : Int32 × IM × JM} (hL : LOK T P) (hF : F_X11_sheet N I J P p1 p2 p3 = some x) : Ctr E mX11_sheet 1 0 0 [.ref 64, .int p1, .int p2, .int p3] T I J P (some (.int x.1)) T x.2.1 x.2.2 P := by
  unfold F_X11_sheet at hF
  refine ctr_intro rfl (by decide +kernel) (Nat.le_of_ble_eq_true rfl) ?_
  refine r_sub (ls' := [(3, .int p3), (2, .int p2), (1, .int p1), (0, .ref 64)]) [3, 2, 1, 0] rfl ?_
  refine r_aload_n dX11_sheet_0 rfl rfl ?_
  refine r_iload_n dX11_sheet_1 rfl rfl ?_
  obtain ⟨x1, hx1, hF⟩ := bnd hF
  refine c_virt_q (As := [.int p1]) mi_X11_sheetAt kw_693 ks_18 kw_691 rfl (by decide) (ln_64 hL) (ok_X11_sheetAt hL  hx1) rfl rfl (Nat.le_of_ble_eq_true rfl) ⟨Nat.le_of_ble_eq_true rfl, Nat.le_of_ble_eq_true rfl⟩ ⟨Nat.le_of_ble_eq_true rfl, Nat.le_of_ble_eq_true rfl⟩ dX11_sheet_2 ?_
  rcases q11 : x1 with _ | c2
  · have hF := (osel_n q11).symm.trans hF
    (try rw [q11])
    show WW _ _ _ _ _ _ _ _ _ _ _ _ (.null :: _)
    refine r_astoreN (ls' := [(4, .null), (3, .int p3), (2, .int p2), (1, .int p1), (0, .ref 64)]) dX11_sheet_5 (by decide) rfl ?_
    refine r_aloadN dX11_sheet_7 rfl ?_
    refine r_ifnullN (tgt := 22) dX11_sheet_9 (by decide) ?_
    refine r_iconst (v := (-1)) dX11_sheet_22 (by decide) ?_
    obtain rfl := Option.some.inj hF
    exact r_ireturn (x := (-1)) rfl rfl dX11_sheet_23 (Nat.le_of_ble_eq_true rfl) (Nat.le_of_ble_eq_true rfl)
  · have hF := (osel_s q11).symm.trans hF
    (try rw [q11])
    show WW _ _ _ _ _ _ _ _ _ _ _ _ (.ref c2 :: _)
    obtain ⟨g3, hF⟩ := gd hF
    have hc2 := g3
    refine r_astore (ls' := [(4, .ref c2), (3, .int p3), (2, .int p2), (1, .int p1), (0, .ref 64)]) dX11_sheet_5 (by decide) rfl ?_
    refine r_aload dX11_sheet_7 rfl ?_
    refine r_ifnull dX11_sheet_9 ?_
    refine r_iload_n dX11_sheet_12 rfl rfl ?_
    refine r_iconst (v := (-1)) dX11_sheet_13 (by decide) ?_
    refine r_icmp_lt (tgt := 22) dX11_sheet_14 (by decide) (fun h4 => ?_) (fun h4 => ?_)
    · have hF := tw hF h4
      refine r_iconst (v := (-1)) dX11_sheet_22 (by decide) ?_
      obtain rfl := Option.some.inj hF
      exact r_ireturn (x := (-1)) rfl rfl dX11_sheet_23 (Nat.le_of_ble_eq_true rfl) (Nat.le_of_ble_eq_true rfl)
    · have hF := fw hF h4
      refine r_iload_n dX11_sheet_17 rfl rfl ?_
      refine r_iconst (v := 4) dX11_sheet_18 (by decide) ?_
      refine r_icmp_lt (tgt := 24) dX11_sheet_19 (by decide) (fun h5 => ?_) (fun h5 => ?_)
      · have hF := tw hF h5
        refine r_iload_n dX11_sheet_24 rfl rfl ?_
        refine r_iconst (v := (-1)) dX11_sheet_25 (by decide) ?_
        refine r_icmp_ne (tgt := 38) dX11_sheet_26 (by decide) (fun h6 => ?_) (fun h6 => ?_)
        · have hF := fw hF h6
          refine r_iload_n dX11_sheet_38 rfl rfl ?_
          refine r_bipush (v := 40) dX11_sheet_39 (by decide) ?_
          refine r_icmp_le (tgt := 46) dX11_sheet_41 (by decide) (fun h7 => ?_) (fun h7 => ?_)
          · have hF := tw hF h7
            refine r_iload_n dX11_sheet_46 rfl rfl ?_
            refine r_if_ge (tgt := 53) dX11_sheet_47 (by decide) (fun h8 => ?_) (fun h8 => ?_)
            · have hF := tw hF h8
              refine r_aload dX11_sheet_53 rfl ?_
              refine r_iload_n dX11_sheet_55 rfl rfl ?_
              refine r_iload_n dX11_sheet_56 rfl rfl ?_
              obtain ⟨x9, hx9, hF⟩ := bnd hF
              refine c_virt_v (As := [.int p2, .int p3]) mi_X3_become kw_753 kw_754 kw_752 rfl (by decide) (sn_0 hL (isSb_of hc2)) (ok_X3_become hL (isSb_of hc2) hx9) rfl rfl (Nat.le_of_ble_eq_true rfl) ⟨Nat.le_of_ble_eq_true rfl, Nat.le_of_ble_eq_true rfl⟩ ⟨Nat.le_of_ble_eq_true rfl, Nat.le_of_ble_eq_true rfl⟩ dX11_sheet_57 ?_
              refine r_iconst (v := 1) dX11_sheet_60 (by decide) ?_
              obtain rfl := Option.some.inj hF
              exact r_ireturn (x := 1) rfl rfl dX11_sheet_61 (Nat.le_of_ble_eq_true rfl) (Nat.le_of_ble_eq_true rfl)
            · have hF := fw hF h8
              refine r_bipush (v := (-14)) dX11_sheet_50 (by decide) ?_
              obtain rfl := Option.some.inj hF
              exact r_ireturn (x := (-14)) rfl rfl dX11_sheet_52 (Nat.le_of_ble_eq_true rfl) (Nat.le_of_ble_eq_true rfl)
          · have hF := fw hF h7
            refine r_iconst (v := (-1)) dX11_sheet_44 (by decide) ?_
            obtain rfl := Option.some.inj hF
            exact r_ireturn (x := (-1)) rfl rfl dX11_sheet_45 (Nat.le_of_ble_eq_true rfl) (Nat.le_of_ble_eq_true rfl)
        · have hF := tw hF h6
          refine r_aload dX11_sheet_29 rfl ?_
          refine r_iconst (v := (-1)) dX11_sheet_31 (by decide) ?_
          refine r_iconst (v := 0) dX11_sheet_32 (by decide) ?_
          obtain ⟨x10, hx10, hF⟩ := bnd hF
          refine c_virt_v (As := [.int (-1), .int 0]) mi_X3_become kw_753 kw_754 kw_752 rfl (by decide) (sn_0 hL (isSb_of hc2)) (ok_X3_become hL (isSb_of hc2) hx10) rfl rfl (Nat.le_of_ble_eq_true rfl) ⟨Nat.le_of_ble_eq_true rfl, Nat.le_of_ble_eq_true rfl⟩ ⟨Nat.le_of_ble_eq_true rfl, Nat.le_of_ble_eq_true rfl⟩ dX11_sheet_33 ?_
          refine r_iconst (v := 1) dX11_sheet_36 (by decide) ?_
          obtain rfl := Option.some.inj hF
          exact r_ireturn (x := 1) rfl rfl dX11_sheet_37 (Nat.le_of_ble_eq_true rfl) (Nat.le_of_ble_eq_true rfl)
      · have hF := fw hF h5
        refine r_iconst (v := (-1)) dX11_sheet_22 (by decide) ?_
        obtain rfl := Option.some.inj hF
        exact r_ireturn (x := (-1)) rfl rfl dX11_sheet_23 (Nat.le_of_ble_eq_true rfl) (Nat.le_of_ble_eq_true rfl)
def F_X3_narrowed (I : IM) (s : Nat) (p1 : Int32) : Int64 := (if (I s 0) = 0 then (Int32.toInt64 ((Int32.toInt8 p1).toInt32)) else (if (I s 0) = 1 then (Int32.toInt64 ((Int32.toInt16 p1).toInt32)) else (Int32.toInt64 p1)))
set_option maxHeartbeats 4000000 in
theorem ok_X3_narrowed {E : GE} {T : TM} {I : IM} {J : JM} {P : PM} {s : Nat} {p1 : Int32} (hL : LOK T P) (hs : isS s) : Ctr E mX3_narrowed 0 0 0 [.ref s, .int p1] T I J P (some (.long (F_X3_narrowed I s p1))) T I J P := by
  generalize hF : F_X3_narrowed I s p1 = r
  unfold F_X3_narrowed at hF
  refine ctr_intro rfl (by decide +kernel) (Nat.le_of_ble_eq_true rfl) ?_
  refine r_sub (ls' := [(1, .int p1), (0, .ref s)]) [1, 0] rfl ?_
  refine r_aload_n dX3_narrowed_0 rfl rfl ?_
  refine r_getI lk_X3_9 (sn_0 hL hs) dX3_narrowed_1 ?_
  by_cases h1 : (I s 0) = 0
  · have hF := tw hF h1
    refine r_lookup (off := 28) (tgt := 32) dX3_narrowed_4 (by decide) (by rw [h1]; decide) (by decide) ?_
    refine r_iload_n dX3_narrowed_32 rfl rfl ?_
    refine r_i2b dX3_narrowed_33 ?_
    refine r_i2l dX3_narrowed_34 ?_
    obtain rfl := hF
    exact r_lreturn rfl dX3_narrowed_35 (Nat.le_of_ble_eq_true rfl) (Nat.le_of_ble_eq_true rfl)
  · have hF := fw hF h1
    by_cases h2 : (I s 0) = 1
    · have hF := tw hF h2
      refine r_lookup (off := 32) (tgt := 36) dX3_narrowed_4 (by decide) (by rw [h2]; decide) (by decide) ?_
      refine r_iload_n dX3_narrowed_36 rfl rfl ?_
      refine r_i2s dX3_narrowed_37 ?_
      refine r_i2l dX3_narrowed_38 ?_
      obtain rfl := hF
      exact r_lreturn rfl dX3_narrowed_39 (Nat.le_of_ble_eq_true rfl) (Nat.le_of_ble_eq_true rfl)
    · have hF := fw hF h2
      have eh1 := nei 0 (by decide) h1
      have eh2 := nei 1 (by decide) h2
      refine r_lookup (off := 36) (tgt := 40) dX3_narrowed_4 (by decide) (by simp [Op.lookupswitch.offset, Ne.symm eh1, Ne.symm eh2]) (by decide) ?_
      refine r_iload_n dX3_narrowed_40 rfl rfl ?_
      refine r_i2l dX3_narrowed_41 ?_
      obtain rfl := hF
      exact r_lreturn rfl dX3_narrowed_42 (Nat.le_of_ble_eq_true rfl) (Nat.le_of_ble_eq_true rfl)
def F_X11_put (I : IM) (J : JM) (P : PM) (p1 : Int32) (p2 : Int32) (p3 : Int32) : Option (Int32 × JM) := ((F_X11_sheetAt P p1).bind (fun x1 => (osel x1 (some ((-1), J)) (fun c2 => (if isSb c2 = true then (if (I c2 0) = (-1) then (some ((-11), J)) else (if p2 < 0 then (some ((-12), J)) else (if p2 < (I c2 1) then (if inb p2 40 = true then (letb (up2 J (c2 + 1) p2.toNatClampNeg (F_X3_narrowed I c2 p3)) (fun J8 : JM => (some (1, J8)))) else none) else (some ((-12), J))))) else none)))))
set_option maxHeartbeats 4000000 in
theorem ok_X11_put {E : GE} {T : TM} {I : IM} {J : JM} {P : PM} {p1 : Int32} {p2 : Int32} {p3 : Int32} {x : Int32 × JM} (hL : LOK T P) (hF : F_X11_put I J P p1 p2 p3 = some x) : Ctr E mX11_put 1 0 0 [.ref 64, .int p1, .int p2, .int p3] T I J P (some (.int x.1)) T I x.2 P := by
  unfold F_X11_put at hF
  refine ctr_intro rfl (by decide +kernel) (Nat.le_of_ble_eq_true rfl) ?_
  refine r_sub (ls' := [(3, .int p3), (2, .int p2), (1, .int p1), (0, .ref 64)]) [3, 2, 1, 0] rfl ?_
  refine r_aload_n dX11_put_0 rfl rfl ?_
  refine r_iload_n dX11_put_1 rfl rfl ?_
  obtain ⟨x1, hx1, hF⟩ := bnd hF
  refine c_virt_q (As := [.int p1]) mi_X11_sheetAt kw_693 ks_18 kw_691 rfl (by decide) (ln_64 hL) (ok_X11_sheetAt hL  hx1) rfl rfl (Nat.le_of_ble_eq_true rfl) ⟨Nat.le_of_ble_eq_true rfl, Nat.le_of_ble_eq_true rfl⟩ ⟨Nat.le_of_ble_eq_true rfl, Nat.le_of_ble_eq_true rfl⟩ dX11_put_2 ?_
  rcases q9 : x1 with _ | c2
  · have hF := (osel_n q9).symm.trans hF
    (try rw [q9])
    show WW _ _ _ _ _ _ _ _ _ _ _ _ (.null :: _)
    refine r_astoreN (ls' := [(4, .null), (3, .int p3), (2, .int p2), (1, .int p1), (0, .ref 64)]) dX11_put_5 (by decide) rfl ?_
    refine r_aloadN dX11_put_7 rfl ?_
    refine r_ifnonnullN dX11_put_9 ?_
    refine r_iconst (v := (-1)) dX11_put_12 (by decide) ?_
    obtain rfl := Option.some.inj hF
    exact r_ireturn (x := (-1)) rfl rfl dX11_put_13 (Nat.le_of_ble_eq_true rfl) (Nat.le_of_ble_eq_true rfl)
  · have hF := (osel_s q9).symm.trans hF
    (try rw [q9])
    show WW _ _ _ _ _ _ _ _ _ _ _ _ (.ref c2 :: _)
    obtain ⟨g3, hF⟩ := gd hF
    have hc2 := g3
    refine r_astore (ls' := [(4, .ref c2), (3, .int p3), (2, .int p2), (1, .int p1), (0, .ref 64)]) dX11_put_5 (by decide) rfl ?_
    refine r_aload dX11_put_7 rfl ?_
    refine r_ifnonnull (tgt := 14) dX11_put_9 (by decide) ?_
    refine r_aload dX11_put_14 rfl ?_
    refine r_getI lk_X11_261 (sn_0 hL (isSb_of hc2)) dX11_put_16 ?_
    refine r_iconst (v := (-1)) dX11_put_19 (by decide) ?_
    refine r_icmp_ne (tgt := 26) dX11_put_20 (by decide) (fun h4 => ?_) (fun h4 => ?_)
    · have hF := fw hF h4
      refine r_iload_n dX11_put_26 rfl rfl ?_
      refine r_if_lt (tgt := 39) dX11_put_27 (by decide) (fun h5 => ?_) (fun h5 => ?_)
      · have hF := tw hF h5
        refine r_bipush (v := (-12)) dX11_put_39 (by decide) ?_
        obtain rfl := Option.some.inj hF
        exact r_ireturn (x := (-12)) rfl rfl dX11_put_41 (Nat.le_of_ble_eq_true rfl) (Nat.le_of_ble_eq_true rfl)
      · have hF := fw hF h5
        refine r_iload_n dX11_put_30 rfl rfl ?_
        refine r_aload dX11_put_31 rfl ?_
        refine r_getI lk_X11_263 (sn_0 hL (isSb_of hc2)) dX11_put_33 ?_
        refine r_icmp_lt (tgt := 42) dX11_put_36 (by decide) (fun h6 => ?_) (fun h6 => ?_)
        · have hF := tw hF h6
          refine r_aload dX11_put_42 rfl ?_
          refine r_getP lk_X11_264 (sn_0 hL (isSb_of hc2)) (sp_2 hL (isSb_of hc2)) dX11_put_44 ?_
          refine r_iload_n dX11_put_47 rfl rfl ?_
          refine r_aload dX11_put_48 rfl ?_
          refine r_iload_n dX11_put_50 rfl rfl ?_
          refine c_virt_l (As := [.int p3]) mi_X3_narrowed kw_761 kw_762 kw_760 rfl (by decide) (sn_0 hL (isSb_of hc2)) (ok_X3_narrowed hL (isSb_of hc2) (s := c2) (p1 := p3)) rfl rfl (Nat.le_of_ble_eq_true rfl) ⟨Nat.le_of_ble_eq_true rfl, Nat.le_of_ble_eq_true rfl⟩ ⟨Nat.le_of_ble_eq_true rfl, Nat.le_of_ble_eq_true rfl⟩ dX11_put_51 ?_
          obtain ⟨g7, hF⟩ := gd hF
          refine r_last (sn_1 hL (isSb_of hc2)) (by rw [(sl_1 hL (isSb_of hc2))]; exact g7) dX11_put_54 ?_
          refine r_letJ hF (fun J8 hF => ?_)
          refine r_iconst (v := 1) dX11_put_55 (by decide) ?_
          obtain rfl := Option.some.inj hF
          exact r_ireturn (x := 1) rfl rfl dX11_put_56 (Nat.le_of_ble_eq_true rfl) (Nat.le_of_ble_eq_true rfl)
        · have hF := fw hF h6
          refine r_bipush (v := (-12)) dX11_put_39 (by decide) ?_
          obtain rfl := Option.some.inj hF
          exact r_ireturn (x := (-12)) rfl rfl dX11_put_41 (Nat.le_of_ble_eq_true rfl) (Nat.le_of_ble_eq_true rfl)
    · have hF := tw hF h4
      refine r_bipush (v := (-11)) dX11_put_23 (by decide) ?_
      obtain rfl := Option.some.inj hF
      exact r_ireturn (x := (-11)) rfl rfl dX11_put_25 (Nat.le_of_ble_eq_true rfl) (Nat.le_of_ble_eq_true rfl)
def F_X11_item (I : IM) (J : JM) (P : PM) (p1 : Int32) (p2 : Int32) (p3 : Int32) : Option (Int32) := ((F_X11_sheetAt P p1).bind (fun x1 => (osel x1 (some (-1)) (fun c2 => (if isSb c2 = true then (if p2 < 0 then (some (-1)) else (if p2 < 4 then (if (I c2 0) = (-1) then (some (-11)) else (if (I c2 0) = p2 then (if p3 < 0 then (some (-12)) else (if p3 < (I c2 1) then (if inb p3 40 = true then (some (Int64.toInt32 (J (c2 + 1) p3.toNatClampNeg))) else none) else (some (-12)))) else (some (-13)))) else (some (-1)))) else none)))))
set_option maxHeartbeats 4000000 in
theorem ok_X11_item {E : GE} {T : TM} {I : IM} {J : JM} {P : PM} {p1 : Int32} {p2 : Int32} {p3 : Int32} {x : Int32} (hL : LOK T P) (hF : F_X11_item I J P p1 p2 p3 = some x) : Ctr E mX11_item 1 0 0 [.ref 64, .int p1, .int p2, .int p3] T I J P (some (.int x)) T I J P := by
  unfold F_X11_item at hF
  refine ctr_intro rfl (by decide +kernel) (Nat.le_of_ble_eq_true rfl) ?_
  refine r_sub (ls' := [(3, .int p3), (2, .int p2), (1, .int p1), (0, .ref 64)]) [3, 2, 1, 0] rfl ?_
  refine r_aload_n dX11_item_0 rfl rfl ?_
  refine r_iload_n dX11_item_1 rfl rfl ?_
  obtain ⟨x1, hx1, hF⟩ := bnd hF
  refine c_virt_q (As := [.int p1]) mi_X11_sheetAt kw_693 ks_18 kw_691 rfl (by decide) (ln_64 hL) (ok_X11_sheetAt hL  hx1) rfl rfl (Nat.le_of_ble_eq_true rfl) ⟨Nat.le_of_ble_eq_true rfl, Nat.le_of_ble_eq_true rfl⟩ ⟨Nat.le_of_ble_eq_true rfl, Nat.le_of_ble_eq_true rfl⟩ dX11_item_2 ?_
  rcases q11 : x1 with _ | c2
  · have hF := (osel_n q11).symm.trans hF
    (try rw [q11])
    show WW _ _ _ _ _ _ _ _ _ _ _ _ (.null :: _)
    refine r_astoreN (ls' := [(4, .null), (3, .int p3), (2, .int p2), (1, .int p1), (0, .ref 64)]) dX11_item_5 (by decide) rfl ?_
    refine r_aloadN dX11_item_7 rfl ?_
    refine r_ifnullN (tgt := 21) dX11_item_9 (by decide) ?_
    refine r_iconst (v := (-1)) dX11_item_21 (by decide) ?_
    obtain rfl := Option.some.inj hF
    exact r_ireturn (x := (-1)) rfl rfl dX11_item_22 (Nat.le_of_ble_eq_true rfl) (Nat.le_of_ble_eq_true rfl)
  · have hF := (osel_s q11).symm.trans hF
    (try rw [q11])
    show WW _ _ _ _ _ _ _ _ _ _ _ _ (.ref c2 :: _)
    obtain ⟨g3, hF⟩ := gd hF
    have hc2 := g3
    refine r_astore (ls' := [(4, .ref c2), (3, .int p3), (2, .int p2), (1, .int p1), (0, .ref 64)]) dX11_item_5 (by decide) rfl ?_
    refine r_aload dX11_item_7 rfl ?_
    refine r_ifnull dX11_item_9 ?_
    refine r_iload_n dX11_item_12 rfl rfl ?_
    refine r_if_lt (tgt := 21) dX11_item_13 (by decide) (fun h4 => ?_) (fun h4 => ?_)
    · have hF := tw hF h4
      refine r_iconst (v := (-1)) dX11_item_21 (by decide) ?_
      obtain rfl := Option.some.inj hF
      exact r_ireturn (x := (-1)) rfl rfl dX11_item_22 (Nat.le_of_ble_eq_true rfl) (Nat.le_of_ble_eq_true rfl)
    · have hF := fw hF h4
      refine r_iload_n dX11_item_16 rfl rfl ?_
      refine r_iconst (v := 4) dX11_item_17 (by decide) ?_
      refine r_icmp_lt (tgt := 23) dX11_item_18 (by decide) (fun h5 => ?_) (fun h5 => ?_)
      · have hF := tw hF h5
        refine r_aload dX11_item_23 rfl ?_
        refine r_getI lk_X11_261 (sn_0 hL (isSb_of hc2)) dX11_item_25 ?_
        refine r_iconst (v := (-1)) dX11_item_28 (by decide) ?_
        refine r_icmp_ne (tgt := 35) dX11_item_29 (by decide) (fun h6 => ?_) (fun h6 => ?_)
        · have hF := fw hF h6
          refine r_aload dX11_item_35 rfl ?_
          refine r_getI lk_X11_261 (sn_0 hL (isSb_of hc2)) dX11_item_37 ?_
          refine r_iload_n dX11_item_40 rfl rfl ?_
          refine r_icmp_eq (tgt := 47) dX11_item_41 (by decide) (fun h7 => ?_) (fun h7 => ?_)
          · have hF := tw hF h7
            refine r_iload_n dX11_item_47 rfl rfl ?_
            refine r_if_lt (tgt := 60) dX11_item_48 (by decide) (fun h8 => ?_) (fun h8 => ?_)
            · have hF := tw hF h8
              refine r_bipush (v := (-12)) dX11_item_60 (by decide) ?_
              refine r_goto (tgt := 73) dX11_item_62 (by decide) ?_
              obtain rfl := Option.some.inj hF
              exact r_ireturn (x := (-12)) rfl rfl dX11_item_73 (Nat.le_of_ble_eq_true rfl) (Nat.le_of_ble_eq_true rfl)
            · have hF := fw hF h8
              refine r_iload_n dX11_item_51 rfl rfl ?_
              refine r_aload dX11_item_52 rfl ?_
              refine r_getI lk_X11_263 (sn_0 hL (isSb_of hc2)) dX11_item_54 ?_
              refine r_icmp_lt (tgt := 65) dX11_item_57 (by decide) (fun h9 => ?_) (fun h9 => ?_)
              · have hF := tw hF h9
                refine r_aload dX11_item_65 rfl ?_
                refine r_getP lk_X11_264 (sn_0 hL (isSb_of hc2)) (sp_2 hL (isSb_of hc2)) dX11_item_67 ?_
                refine r_iload_n dX11_item_70 rfl rfl ?_
                obtain ⟨g10, hF⟩ := gd hF
                refine r_lald (sn_1 hL (isSb_of hc2)) (by rw [(sl_1 hL (isSb_of hc2))]; exact g10) dX11_item_71 ?_
                refine r_l2i dX11_item_72 ?_
                obtain rfl := Option.some.inj hF
                exact r_ireturn (x := (Int64.toInt32 (J (c2 + 1) p3.toNatClampNeg))) rfl rfl dX11_item_73 (Nat.le_of_ble_eq_true rfl) (Nat.le_of_ble_eq_true rfl)
              · have hF := fw hF h9
                refine r_bipush (v := (-12)) dX11_item_60 (by decide) ?_
                refine r_goto (tgt := 73) dX11_item_62 (by decide) ?_
                obtain rfl := Option.some.inj hF
                exact r_ireturn (x := (-12)) rfl rfl dX11_item_73 (Nat.le_of_ble_eq_true rfl) (Nat.le_of_ble_eq_true rfl)
          · have hF := fw hF h7
            refine r_bipush (v := (-13)) dX11_item_44 (by decide) ?_
            obtain rfl := Option.some.inj hF
            exact r_ireturn (x := (-13)) rfl rfl dX11_item_46 (Nat.le_of_ble_eq_true rfl) (Nat.le_of_ble_eq_true rfl)
        · have hF := tw hF h6
          refine r_bipush (v := (-11)) dX11_item_32 (by decide) ?_
          obtain rfl := Option.some.inj hF
          exact r_ireturn (x := (-11)) rfl rfl dX11_item_34 (Nat.le_of_ble_eq_true rfl) (Nat.le_of_ble_eq_true rfl)
      · have hF := fw hF h5
        refine r_iconst (v := (-1)) dX11_item_21 (by decide) ?_
        obtain rfl := Option.some.inj hF
        exact r_ireturn (x := (-1)) rfl rfl dX11_item_22 (Nat.le_of_ble_eq_true rfl) (Nat.le_of_ble_eq_true rfl)
def F_X11_isShelf (p1 : Int32) : Int32 := (if p1 < 0 then 0 else (if 4 ≤ p1 then 0 else 1))
set_option maxHeartbeats 4000000 in
theorem ok_X11_isShelf {E : GE} {T : TM} {I : IM} {J : JM} {P : PM} {p1 : Int32} (hL : LOK T P) : Ctr E mX11_isShelf 0 0 0 [.int p1] T I J P (some (.int (F_X11_isShelf p1))) T I J P := by
  generalize hF : F_X11_isShelf p1 = r
  unfold F_X11_isShelf at hF
  refine ctr_intro rfl (by decide +kernel) (Nat.le_of_ble_eq_true rfl) ?_
  refine r_sub (ls' := [(0, .int p1)]) [0] rfl ?_
  refine r_iload_n dX11_isShelf_0 rfl rfl ?_
  refine r_if_lt (tgt := 13) dX11_isShelf_1 (by decide) (fun h1 => ?_) (fun h1 => ?_)
  · have hF := tw hF h1
    refine r_iconst (v := 0) dX11_isShelf_13 (by decide) ?_
    obtain rfl := hF
    exact r_ireturn (x := 0) rfl rfl dX11_isShelf_14 (Nat.le_of_ble_eq_true rfl) (Nat.le_of_ble_eq_true rfl)
  · have hF := fw hF h1
    refine r_iload_n dX11_isShelf_4 rfl rfl ?_
    refine r_iconst (v := 4) dX11_isShelf_5 (by decide) ?_
    refine r_icmp_ge (tgt := 13) dX11_isShelf_6 (by decide) (fun h2 => ?_) (fun h2 => ?_)
    · have hF := tw hF h2
      refine r_iconst (v := 0) dX11_isShelf_13 (by decide) ?_
      obtain rfl := hF
      exact r_ireturn (x := 0) rfl rfl dX11_isShelf_14 (Nat.le_of_ble_eq_true rfl) (Nat.le_of_ble_eq_true rfl)
    · have hF := fw hF h2
      refine r_iconst (v := 1) dX11_isShelf_9 (by decide) ?_
      refine r_goto (tgt := 14) dX11_isShelf_10 (by decide) ?_
      obtain rfl := hF
      exact r_ireturn (x := 1) rfl rfl dX11_isShelf_14 (Nat.le_of_ble_eq_true rfl) (Nat.le_of_ble_eq_true rfl)
theorem nz_X11_isShelf (p1 : Int32) : narrow .boolean (.int (F_X11_isShelf p1)) = .int (F_X11_isShelf p1) := by
  unfold F_X11_isShelf
  repeat' split
  all_goals first | rfl
def F_X11_lay (I : IM) (p1 : Int32) (p2 : Int32) (p3 : Int32) (p4 : Int32) : Option (Int32 × IM) := (if inb p1 4 = true then (letb (up2 I 85 p1.toNatClampNeg p2) (fun I2 : IM => (if inb p1 4 = true then (letb (up2 I2 86 p1.toNatClampNeg p3) (fun I4 : IM => (if inb p1 4 = true then (letb (up2 I4 87 p1.toNatClampNeg p4) (fun I6 : IM => (some (1, I6)))) else none))) else none))) else none)
set_option maxHeartbeats 4000000 in
theorem ok_X11_lay {E : GE} {T : TM} {I : IM} {J : JM} {P : PM} {p1 : Int32} {p2 : Int32} {p3 : Int32} {p4 : Int32} {x : Int32 × IM} (hL : LOK T P) (hF : F_X11_lay I p1 p2 p3 p4 = some x) : Ctr E mX11_lay 0 0 0 [.ref 64, .int p1, .int p2, .int p3, .int p4] T I J P (some (.int x.1)) T x.2 J P := by
  unfold F_X11_lay at hF
  refine ctr_intro rfl (by decide +kernel) (Nat.le_of_ble_eq_true rfl) ?_
  refine r_sub (ls' := [(4, .int p4), (3, .int p3), (2, .int p2), (1, .int p1), (0, .ref 64)]) [4, 3, 2, 1, 0] rfl ?_
  refine r_aload_n dX11_lay_0 rfl rfl ?_
  refine r_getP lk_X11_42 (ln_64 hL) (pp_64_7 hL) dX11_lay_1 ?_
  refine r_iload_n dX11_lay_4 rfl rfl ?_
  refine r_iload_n dX11_lay_5 rfl rfl ?_
  obtain ⟨g1, hF⟩ := gd hF
  refine r_iast (ln_85 hL) (by rw [(nl_85 hL)]; exact g1) dX11_lay_6 ?_
  refine r_letI hF (fun I2 hF => ?_)
  refine r_aload_n dX11_lay_7 rfl rfl ?_
  refine r_getP lk_X11_46 (ln_64 hL) (pp_64_8 hL) dX11_lay_8 ?_
  refine r_iload_n dX11_lay_11 rfl rfl ?_
  refine r_iload_n dX11_lay_12 rfl rfl ?_
  obtain ⟨g3, hF⟩ := gd hF
  refine r_iast (ln_86 hL) (by rw [(nl_86 hL)]; exact g3) dX11_lay_13 ?_
  refine r_letI hF (fun I4 hF => ?_)
  refine r_aload_n dX11_lay_14 rfl rfl ?_
  refine r_getP lk_X11_49 (ln_64 hL) (pp_64_9 hL) dX11_lay_15 ?_
  refine r_iload_n dX11_lay_18 rfl rfl ?_
  refine r_iload dX11_lay_19 rfl ?_
  obtain ⟨g5, hF⟩ := gd hF
  refine r_iast (ln_87 hL) (by rw [(nl_87 hL)]; exact g5) dX11_lay_21 ?_
  refine r_letI hF (fun I6 hF => ?_)
  refine r_iconst (v := 1) dX11_lay_22 (by decide) ?_
  obtain rfl := Option.some.inj hF
  exact r_ireturn (x := 1) rfl rfl dX11_lay_23 (Nat.le_of_ble_eq_true rfl) (Nat.le_of_ble_eq_true rfl)
def F_X11_layRow (I : IM) (p1 : Int32) (s2 : Option Nat) : Option (Int32 × IM) := (osel s2 (some ((-1), I)) (fun z1 => (if (I z1 0) = (-1) then ((F_X11_lay I p1 0 0 0).bind (fun x4 => (some (x4.1, x4.2)))) else ((F_X11_lay I p1 2 (I z1 0) (I z1 1)).bind (fun x3 => (some (x3.1, x3.2)))))))
set_option maxHeartbeats 4000000 in
theorem ok_X11_layRow {E : GE} {T : TM} {I : IM} {J : JM} {P : PM} {p1 : Int32} {s2 : Option Nat} {x : Int32 × IM} (hL : LOK T P) (hs2 : ∀ z, s2 = some z → isS z) (hF : F_X11_layRow I p1 s2 = some x) : Ctr E mX11_layRow 1 0 0 [.ref 64, .int p1, (rv s2)] T I J P (some (.int x.1)) T x.2 J P := by
  unfold F_X11_layRow at hF
  refine ctr_intro rfl (by decide +kernel) (by cases s2 <;> exact Nat.le_of_ble_eq_true rfl) ?_
  refine r_sub (ls' := [(2, rv s2), (1, .int p1), (0, .ref 64)]) [2, 1, 0] rfl ?_
  rcases s2 with _ | z1
  · have hF := (osel_n rfl).symm.trans hF
    refine r_aload_nN dX11_layRow_0 rfl rfl ?_
    refine r_ifnonnullN dX11_layRow_1 ?_
    refine r_iconst (v := (-1)) dX11_layRow_4 (by decide) ?_
    obtain rfl := Option.some.inj hF
    exact r_ireturn (x := (-1)) rfl rfl dX11_layRow_5 (Nat.le_of_ble_eq_true rfl) (Nat.le_of_ble_eq_true rfl)
  · have hF := (osel_s rfl).symm.trans hF
    refine r_aload_n dX11_layRow_0 rfl rfl ?_
    refine r_ifnonnull (tgt := 6) dX11_layRow_1 (by decide) ?_
    refine r_aload_n dX11_layRow_6 rfl rfl ?_
    refine r_getI lk_X11_261 (sn_0 hL (hs2 _ rfl)) dX11_layRow_7 ?_
    refine r_iconst (v := (-1)) dX11_layRow_10 (by decide) ?_
    refine r_icmp_ne (tgt := 23) dX11_layRow_11 (by decide) (fun h2 => ?_) (fun h2 => ?_)
    · have hF := fw hF h2
      refine r_aload_n dX11_layRow_23 rfl rfl ?_
      refine r_iload_n dX11_layRow_24 rfl rfl ?_
      refine r_iconst (v := 2) dX11_layRow_25 (by decide) ?_
      refine r_aload_n dX11_layRow_26 rfl rfl ?_
      refine r_getI lk_X11_261 (sn_0 hL (hs2 _ rfl)) dX11_layRow_27 ?_
      refine r_aload_n dX11_layRow_30 rfl rfl ?_
      refine r_getI lk_X11_263 (sn_0 hL (hs2 _ rfl)) dX11_layRow_31 ?_
      obtain ⟨x3, hx3, hF⟩ := bnd hF
      refine c_virt_i (As := [.int p1, .int 2, .int (I z1 0), .int (I z1 1)]) mi_X11_lay kw_777 ks_21 kw_775 rfl (by decide) (ln_64 hL) (ok_X11_lay hL  hx3) rfl rfl (Nat.le_of_ble_eq_true rfl) ⟨Nat.le_of_ble_eq_true rfl, Nat.le_of_ble_eq_true rfl⟩ ⟨Nat.le_of_ble_eq_true rfl, Nat.le_of_ble_eq_true rfl⟩ dX11_layRow_34 ?_
      obtain rfl := Option.some.inj hF
      exact r_ireturn (x := x3.1) rfl rfl dX11_layRow_37 (Nat.le_of_ble_eq_true rfl) (Nat.le_of_ble_eq_true rfl)
    · have hF := tw hF h2
      refine r_aload_n dX11_layRow_14 rfl rfl ?_
      refine r_iload_n dX11_layRow_15 rfl rfl ?_
      refine r_iconst (v := 0) dX11_layRow_16 (by decide) ?_
      refine r_iconst (v := 0) dX11_layRow_17 (by decide) ?_
      refine r_iconst (v := 0) dX11_layRow_18 (by decide) ?_
      obtain ⟨x4, hx4, hF⟩ := bnd hF
      refine c_virt_i (As := [.int p1, .int 0, .int 0, .int 0]) mi_X11_lay kw_777 ks_21 kw_775 rfl (by decide) (ln_64 hL) (ok_X11_lay hL  hx4) rfl rfl (Nat.le_of_ble_eq_true rfl) ⟨Nat.le_of_ble_eq_true rfl, Nat.le_of_ble_eq_true rfl⟩ ⟨Nat.le_of_ble_eq_true rfl, Nat.le_of_ble_eq_true rfl⟩ dX11_layRow_19 ?_
      obtain rfl := Option.some.inj hF
      exact r_ireturn (x := x4.1) rfl rfl dX11_layRow_22 (Nat.le_of_ble_eq_true rfl) (Nat.le_of_ble_eq_true rfl)
def F_X11_shelf (I : IM) (P : PM) (p1 : Int32) (p2 : Int32) (p3 : Int32) : Option (Int32 × IM) := (if (F_X11_isShelf p1) = 0 then (some ((-1), I)) else (if p2 = 0 then ((F_X10_cardAt I P 65 p3).bind (fun x3 => (osel x3 (some ((-1), I)) (fun c4 => ((F_X11_lay I p1 1 p3 0).bind (fun x5 => (some (x5.1, x5.2)))))))) else (if p2 = 1 then ((F_X11_sheetAt P p3).bind (fun x8 => (osel x8 ((F_X11_layRow I p1 none).bind (fun x10 => (some (x10.1, x10.2)))) (fun c9 => (if isSb c9 = true then ((F_X11_layRow I p1 (some c9)).bind (fun x12 => (some (x12.1, x12.2)))) else none))))) else (if p2 = 2 then ((F_X11_lay I p1 0 0 0).bind (fun x15 => (some (x15.1, x15.2)))) else (some ((-1), I))))))
set_option maxHeartbeats 4000000 in
theorem ok_X11_shelf {E : GE} {T : TM} {I : IM} {J : JM} {P : PM} {p1 : Int32} {p2 : Int32} {p3 : Int32} {x : Int32 × IM} (hL : LOK T P) (hF : F_X11_shelf I P p1 p2 p3 = some x) : Ctr E mX11_shelf 2 0 0 [.ref 64, .int p1, .int p2, .int p3] T I J P (some (.int x.1)) T x.2 J P := by
  unfold F_X11_shelf at hF
  refine ctr_intro rfl (by decide +kernel) (Nat.le_of_ble_eq_true rfl) ?_
  refine r_sub (ls' := [(3, .int p3), (2, .int p2), (1, .int p1), (0, .ref 64)]) [3, 2, 1, 0] rfl ?_
  refine r_iload_n dX11_shelf_0 rfl rfl ?_
  refine c_static_i (As := [.int p1]) mi_X11_isShelf kw_773 kw_772 (ok_X11_isShelf hL  (p1 := p1)) rfl rfl (Nat.le_of_ble_eq_true rfl) ⟨Nat.le_of_ble_eq_true rfl, Nat.le_of_ble_eq_true rfl⟩ ⟨Nat.le_of_ble_eq_true rfl, Nat.le_of_ble_eq_true rfl⟩ dX11_shelf_1 ?_
  refine r_if_ne (tgt := 9) dX11_shelf_4 (by decide) (fun h1 => ?_) (fun h1 => ?_)
  · have hF := fw hF h1
    refine r_iload_n dX11_shelf_9 rfl rfl ?_
    by_cases h2 : p2 = 0
    · have hF := tw hF h2
      refine r_tableIn (off := 26) (tgt := 36) dX11_shelf_10 (by rw [h2]; decide) (by rw [h2]; decide) (by rw [h2]; decide) (by decide) ?_
      refine r_aload_n dX11_shelf_36 rfl rfl ?_
      refine r_getP lk_X11_10 (ln_64 hL) (pp_64_0 hL) dX11_shelf_37 ?_
      refine r_iload_n dX11_shelf_40 rfl rfl ?_
      obtain ⟨x3, hx3, hF⟩ := bnd hF
      refine c_virt_q (As := [.int p3]) mi_X10_cardAt kw_492 kw_493 kw_491 rfl (by decide) (ln_65 hL) (ok_X10_cardAt hL (isw_65) hx3) rfl rfl (Nat.le_of_ble_eq_true rfl) ⟨Nat.le_of_ble_eq_true rfl, Nat.le_of_ble_eq_true rfl⟩ ⟨Nat.le_of_ble_eq_true rfl, Nat.le_of_ble_eq_true rfl⟩ dX11_shelf_41 ?_
      rcases q6 : x3 with _ | c4
      · have hF := (osel_n q6).symm.trans hF
        (try rw [q6])
        show WW _ _ _ _ _ _ _ _ _ _ _ _ (.null :: _)
        refine r_ifnonnullN dX11_shelf_44 ?_
        refine r_iconst (v := (-1)) dX11_shelf_47 (by decide) ?_
        refine r_goto (tgt := 59) dX11_shelf_48 (by decide) ?_
        obtain rfl := Option.some.inj hF
        exact r_ireturn (x := (-1)) rfl rfl dX11_shelf_59 (Nat.le_of_ble_eq_true rfl) (Nat.le_of_ble_eq_true rfl)
      · have hF := (osel_s q6).symm.trans hF
        (try rw [q6])
        show WW _ _ _ _ _ _ _ _ _ _ _ _ (.ref c4 :: _)
        refine r_ifnonnull (tgt := 51) dX11_shelf_44 (by decide) ?_
        refine r_aload_n dX11_shelf_51 rfl rfl ?_
        refine r_iload_n dX11_shelf_52 rfl rfl ?_
        refine r_iconst (v := 1) dX11_shelf_53 (by decide) ?_
        refine r_iload_n dX11_shelf_54 rfl rfl ?_
        refine r_iconst (v := 0) dX11_shelf_55 (by decide) ?_
        obtain ⟨x5, hx5, hF⟩ := bnd hF
        refine c_virt_i (As := [.int p1, .int 1, .int p3, .int 0]) mi_X11_lay kw_777 ks_21 kw_775 rfl (by decide) (ln_64 hL) (ok_X11_lay hL  hx5) rfl rfl (Nat.le_of_ble_eq_true rfl) ⟨Nat.le_of_ble_eq_true rfl, Nat.le_of_ble_eq_true rfl⟩ ⟨Nat.le_of_ble_eq_true rfl, Nat.le_of_ble_eq_true rfl⟩ dX11_shelf_56 ?_
        obtain rfl := Option.some.inj hF
        exact r_ireturn (x := x5.1) rfl rfl dX11_shelf_59 (Nat.le_of_ble_eq_true rfl) (Nat.le_of_ble_eq_true rfl)
    · have hF := fw hF h2
      by_cases h7 : p2 = 1
      · have hF := tw hF h7
        refine r_tableIn (off := 50) (tgt := 60) dX11_shelf_10 (by rw [h7]; decide) (by rw [h7]; decide) (by rw [h7]; decide) (by decide) ?_
        refine r_aload_n dX11_shelf_60 rfl rfl ?_
        refine r_iload_n dX11_shelf_61 rfl rfl ?_
        refine r_aload_n dX11_shelf_62 rfl rfl ?_
        refine r_iload_n dX11_shelf_63 rfl rfl ?_
        obtain ⟨x8, hx8, hF⟩ := bnd hF
        refine c_virt_q (As := [.int p3]) mi_X11_sheetAt kw_693 ks_18 kw_691 rfl (by decide) (ln_64 hL) (ok_X11_sheetAt hL  hx8) rfl rfl (Nat.le_of_ble_eq_true rfl) ⟨Nat.le_of_ble_eq_true rfl, Nat.le_of_ble_eq_true rfl⟩ ⟨Nat.le_of_ble_eq_true rfl, Nat.le_of_ble_eq_true rfl⟩ dX11_shelf_64 ?_
        rcases q13 : x8 with _ | c9
        · have hF := (osel_n q13).symm.trans hF
          (try rw [q13])
          show WW _ _ _ _ _ _ _ _ _ _ _ _ (.null :: _)
          obtain ⟨x10, hx10, hF⟩ := bnd hF
          refine c_virt_i (As := [.int p1, .null]) mi_X11_layRow kw_781 ks_22 kw_779 rfl (by decide) (ln_64 hL) (ok_X11_layRow hL (fun _ h => by cases h) hx10) rfl rfl (Nat.le_of_ble_eq_true rfl) ⟨Nat.le_of_ble_eq_true rfl, Nat.le_of_ble_eq_true rfl⟩ ⟨Nat.le_of_ble_eq_true rfl, Nat.le_of_ble_eq_true rfl⟩ dX11_shelf_67 ?_
          obtain rfl := Option.some.inj hF
          exact r_ireturn (x := x10.1) rfl rfl dX11_shelf_70 (Nat.le_of_ble_eq_true rfl) (Nat.le_of_ble_eq_true rfl)
        · have hF := (osel_s q13).symm.trans hF
          (try rw [q13])
          show WW _ _ _ _ _ _ _ _ _ _ _ _ (.ref c9 :: _)
          obtain ⟨g11, hF⟩ := gd hF
          have hc9 := g11
          obtain ⟨x12, hx12, hF⟩ := bnd hF
          refine c_virt_i (As := [.int p1, .ref c9]) mi_X11_layRow kw_781 ks_22 kw_779 rfl (by decide) (ln_64 hL) (ok_X11_layRow hL (fun _ h => by cases h; exact (isSb_of hc9)) hx12) rfl rfl (Nat.le_of_ble_eq_true rfl) ⟨Nat.le_of_ble_eq_true rfl, Nat.le_of_ble_eq_true rfl⟩ ⟨Nat.le_of_ble_eq_true rfl, Nat.le_of_ble_eq_true rfl⟩ dX11_shelf_67 ?_
          obtain rfl := Option.some.inj hF
          exact r_ireturn (x := x12.1) rfl rfl dX11_shelf_70 (Nat.le_of_ble_eq_true rfl) (Nat.le_of_ble_eq_true rfl)
      · have hF := fw hF h7
        by_cases h14 : p2 = 2
        · have hF := tw hF h14
          refine r_tableIn (off := 61) (tgt := 71) dX11_shelf_10 (by rw [h14]; decide) (by rw [h14]; decide) (by rw [h14]; decide) (by decide) ?_
          refine r_aload_n dX11_shelf_71 rfl rfl ?_
          refine r_iload_n dX11_shelf_72 rfl rfl ?_
          refine r_iconst (v := 0) dX11_shelf_73 (by decide) ?_
          refine r_iconst (v := 0) dX11_shelf_74 (by decide) ?_
          refine r_iconst (v := 0) dX11_shelf_75 (by decide) ?_
          obtain ⟨x15, hx15, hF⟩ := bnd hF
          refine c_virt_i (As := [.int p1, .int 0, .int 0, .int 0]) mi_X11_lay kw_777 ks_21 kw_775 rfl (by decide) (ln_64 hL) (ok_X11_lay hL  hx15) rfl rfl (Nat.le_of_ble_eq_true rfl) ⟨Nat.le_of_ble_eq_true rfl, Nat.le_of_ble_eq_true rfl⟩ ⟨Nat.le_of_ble_eq_true rfl, Nat.le_of_ble_eq_true rfl⟩ dX11_shelf_76 ?_
          obtain rfl := Option.some.inj hF
          exact r_ireturn (x := x15.1) rfl rfl dX11_shelf_79 (Nat.le_of_ble_eq_true rfl) (Nat.le_of_ble_eq_true rfl)
        · have hF := fw hF h14
          have eh2 := nei 0 (by decide) h2
          have eh7 := nei 1 (by decide) h7
          have eh14 := nei 2 (by decide) h14
          refine r_tableOut (tgt := 80) dX11_shelf_10 (by omega) (by decide) ?_
          refine r_iconst (v := (-1)) dX11_shelf_80 (by decide) ?_
          obtain rfl := Option.some.inj hF
          exact r_ireturn (x := (-1)) rfl rfl dX11_shelf_81 (Nat.le_of_ble_eq_true rfl) (Nat.le_of_ble_eq_true rfl)
  · have hF := tw hF h1
    refine r_iconst (v := (-1)) dX11_shelf_7 (by decide) ?_
    obtain rfl := Option.some.inj hF
    exact r_ireturn (x := (-1)) rfl rfl dX11_shelf_8 (Nat.le_of_ble_eq_true rfl) (Nat.le_of_ble_eq_true rfl)
def F_X11_thingOn (I : IM) (P : PM) (p1 : Int32) : Option (Option Nat) := (if (F_X11_isShelf p1) = 0 then (some none) else (if inb p1 4 = true then (if (I 85 p1.toNatClampNeg) = 1 then (if inb p1 4 = true then ((F_X10_cardAt I P 65 (I 86 p1.toNatClampNeg)).bind (fun x5 => (osel x5 (some none) (fun c6 => (some (some c6)))))) else none) else (some none)) else none))
set_option maxHeartbeats 4000000 in
theorem ok_X11_thingOn {E : GE} {T : TM} {I : IM} {J : JM} {P : PM} {p1 : Int32} {x : Option Nat} (hL : LOK T P) (hF : F_X11_thingOn I P p1 = some x) : Ctr E mX11_thingOn 1 0 0 [.ref 64, .int p1] T I J P (some (rv x)) T I J P := by
  unfold F_X11_thingOn at hF
  refine ctr_intro rfl (by decide +kernel) (Nat.le_of_ble_eq_true rfl) ?_
  refine r_sub (ls' := [(1, .int p1), (0, .ref 64)]) [1, 0] rfl ?_
  refine r_iload_n dX11_thingOn_0 rfl rfl ?_
  refine c_static_i (As := [.int p1]) mi_X11_isShelf kw_773 kw_772 (ok_X11_isShelf hL  (p1 := p1)) rfl rfl (Nat.le_of_ble_eq_true rfl) ⟨Nat.le_of_ble_eq_true rfl, Nat.le_of_ble_eq_true rfl⟩ ⟨Nat.le_of_ble_eq_true rfl, Nat.le_of_ble_eq_true rfl⟩ dX11_thingOn_1 ?_
  refine r_if_eq (tgt := 17) dX11_thingOn_4 (by decide) (fun h1 => ?_) (fun h1 => ?_)
  · have hF := tw hF h1
    refine r_null dX11_thingOn_17 ?_
    obtain rfl := Option.some.inj hF
    exact r_areturnN rfl dX11_thingOn_18 (Nat.le_of_ble_eq_true rfl) (Nat.le_of_ble_eq_true rfl)
  · have hF := fw hF h1
    refine r_aload_n dX11_thingOn_7 rfl rfl ?_
    refine r_getP lk_X11_42 (ln_64 hL) (pp_64_7 hL) dX11_thingOn_8 ?_
    refine r_iload_n dX11_thingOn_11 rfl rfl ?_
    obtain ⟨g2, hF⟩ := gd hF
    refine r_iald (ln_85 hL) (by rw [(nl_85 hL)]; exact g2) dX11_thingOn_12 ?_
    refine r_iconst (v := 1) dX11_thingOn_13 (by decide) ?_
    refine r_icmp_eq (tgt := 19) dX11_thingOn_14 (by decide) (fun h3 => ?_) (fun h3 => ?_)
    · have hF := tw hF h3
      refine r_aload_n dX11_thingOn_19 rfl rfl ?_
      refine r_getP lk_X11_10 (ln_64 hL) (pp_64_0 hL) dX11_thingOn_20 ?_
      refine r_aload_n dX11_thingOn_23 rfl rfl ?_
      refine r_getP lk_X11_46 (ln_64 hL) (pp_64_8 hL) dX11_thingOn_24 ?_
      refine r_iload_n dX11_thingOn_27 rfl rfl ?_
      obtain ⟨g4, hF⟩ := gd hF
      refine r_iald (ln_86 hL) (by rw [(nl_86 hL)]; exact g4) dX11_thingOn_28 ?_
      obtain ⟨x5, hx5, hF⟩ := bnd hF
      refine c_virt_q (As := [.int (I 86 p1.toNatClampNeg)]) mi_X10_cardAt kw_492 kw_493 kw_491 rfl (by decide) (ln_65 hL) (ok_X10_cardAt hL (isw_65) hx5) rfl rfl (Nat.le_of_ble_eq_true rfl) ⟨Nat.le_of_ble_eq_true rfl, Nat.le_of_ble_eq_true rfl⟩ ⟨Nat.le_of_ble_eq_true rfl, Nat.le_of_ble_eq_true rfl⟩ dX11_thingOn_29 ?_
      rcases q7 : x5 with _ | c6
      · have hF := (osel_n q7).symm.trans hF
        (try rw [q7])
        show WW _ _ _ _ _ _ _ _ _ _ _ _ (.null :: _)
        obtain rfl := Option.some.inj hF
        exact r_areturnN rfl dX11_thingOn_32 (Nat.le_of_ble_eq_true rfl) (Nat.le_of_ble_eq_true rfl)
      · have hF := (osel_s q7).symm.trans hF
        (try rw [q7])
        show WW _ _ _ _ _ _ _ _ _ _ _ _ (.ref c6 :: _)
        obtain rfl := Option.some.inj hF
        exact r_areturn rfl dX11_thingOn_32 (Nat.le_of_ble_eq_true rfl) (Nat.le_of_ble_eq_true rfl)
    · have hF := fw hF h3
      refine r_null dX11_thingOn_17 ?_
      obtain rfl := Option.some.inj hF
      exact r_areturnN rfl dX11_thingOn_18 (Nat.le_of_ble_eq_true rfl) (Nat.le_of_ble_eq_true rfl)
def F_X11_isOfKind (T : TM) (c1 : Nat) (p2 : Int32) : Int32 := (if p2 = 0 then 1 else (if p2 = 1 then (isInst (T.2.1 c1) 4) else (if p2 = 2 then (isInst (T.2.1 c1) 5) else (if p2 = 3 then (isInst (T.2.1 c1) 8) else (if p2 = 4 then (isInst (T.2.1 c1) 2) else (isInst (T.2.1 c1) 9))))))
set_option maxHeartbeats 4000000 in
theorem ok_X11_isOfKind {E : GE} {T : TM} {I : IM} {J : JM} {P : PM} {c1 : Nat} {p2 : Int32} (hL : LOK T P) (hc1 : isF T c1 = true) : Ctr E mX11_isOfKind 0 0 0 [.ref c1, .int p2] T I J P (some (.int (F_X11_isOfKind T c1 p2))) T I J P := by
  generalize hF : F_X11_isOfKind T c1 p2 = r
  unfold F_X11_isOfKind at hF
  refine ctr_intro rfl (by decide +kernel) (Nat.le_of_ble_eq_true rfl) ?_
  refine r_sub (ls' := [(1, .int p2), (0, .ref c1)]) [1, 0] rfl ?_
  refine r_iload_n dX11_isOfKind_0 rfl rfl ?_
  by_cases h1 : p2 = 0
  · have hF := tw hF h1
    refine r_tableIn (off := 35) (tgt := 36) dX11_isOfKind_1 (by rw [h1]; decide) (by rw [h1]; decide) (by rw [h1]; decide) (by decide) ?_
    refine r_iconst (v := 1) dX11_isOfKind_36 (by decide) ?_
    obtain rfl := hF
    exact r_ireturn (x := 1) rfl rfl dX11_isOfKind_37 (Nat.le_of_ble_eq_true rfl) (Nat.le_of_ble_eq_true rfl)
  · have hF := fw hF h1
    by_cases h2 : p2 = 1
    · have hF := tw hF h2
      refine r_tableIn (off := 37) (tgt := 38) dX11_isOfKind_1 (by rw [h2]; decide) (by rw [h2]; decide) (by rw [h2]; decide) (by decide) ?_
      refine r_aload_n dX11_isOfKind_38 rfl rfl ?_
      refine r_inst (ni := 4) (Or.inr (Or.inl rfl)) rfl kw_794 hc1 dX11_isOfKind_39 ?_
      obtain rfl := hF
      exact r_ireturn (x := (isInst (T.2.1 c1) 4)) rfl (isInst_nb _ _) dX11_isOfKind_42 (Nat.le_of_ble_eq_true rfl) (Nat.le_of_ble_eq_true rfl)
    · have hF := fw hF h2
      by_cases h3 : p2 = 2
      · have hF := tw hF h3
        refine r_tableIn (off := 42) (tgt := 43) dX11_isOfKind_1 (by rw [h3]; decide) (by rw [h3]; decide) (by rw [h3]; decide) (by decide) ?_
        refine r_aload_n dX11_isOfKind_43 rfl rfl ?_
        refine r_inst (ni := 5) (Or.inr (Or.inr (Or.inl rfl))) rfl kw_795 hc1 dX11_isOfKind_44 ?_
        obtain rfl := hF
        exact r_ireturn (x := (isInst (T.2.1 c1) 5)) rfl (isInst_nb _ _) dX11_isOfKind_47 (Nat.le_of_ble_eq_true rfl) (Nat.le_of_ble_eq_true rfl)
      · have hF := fw hF h3
        by_cases h4 : p2 = 3
        · have hF := tw hF h4
          refine r_tableIn (off := 47) (tgt := 48) dX11_isOfKind_1 (by rw [h4]; decide) (by rw [h4]; decide) (by rw [h4]; decide) (by decide) ?_
          refine r_aload_n dX11_isOfKind_48 rfl rfl ?_
          refine r_inst (ni := 8) (Or.inr (Or.inr (Or.inr (Or.inl rfl)))) rfl kw_796 hc1 dX11_isOfKind_49 ?_
          obtain rfl := hF
          exact r_ireturn (x := (isInst (T.2.1 c1) 8)) rfl (isInst_nb _ _) dX11_isOfKind_52 (Nat.le_of_ble_eq_true rfl) (Nat.le_of_ble_eq_true rfl)
        · have hF := fw hF h4
          by_cases h5 : p2 = 4
          · have hF := tw hF h5
            refine r_tableIn (off := 52) (tgt := 53) dX11_isOfKind_1 (by rw [h5]; decide) (by rw [h5]; decide) (by rw [h5]; decide) (by decide) ?_
            refine r_aload_n dX11_isOfKind_53 rfl rfl ?_
            refine r_inst (ni := 2) (Or.inl rfl) rfl kw_797 hc1 dX11_isOfKind_54 ?_
            obtain rfl := hF
            exact r_ireturn (x := (isInst (T.2.1 c1) 2)) rfl (isInst_nb _ _) dX11_isOfKind_57 (Nat.le_of_ble_eq_true rfl) (Nat.le_of_ble_eq_true rfl)
          · have hF := fw hF h5
            have eh1 := nei 0 (by decide) h1
            have eh2 := nei 1 (by decide) h2
            have eh3 := nei 2 (by decide) h3
            have eh4 := nei 3 (by decide) h4
            have eh5 := nei 4 (by decide) h5
            refine r_tableOut (tgt := 58) dX11_isOfKind_1 (by omega) (by decide) ?_
            refine r_aload_n dX11_isOfKind_58 rfl rfl ?_
            refine r_inst (ni := 9) (Or.inr (Or.inr (Or.inr (Or.inr rfl)))) rfl kw_798 hc1 dX11_isOfKind_59 ?_
            obtain rfl := hF
            exact r_ireturn (x := (isInst (T.2.1 c1) 9)) rfl (isInst_nb _ _) dX11_isOfKind_62 (Nat.le_of_ble_eq_true rfl) (Nat.le_of_ble_eq_true rfl)
theorem nz_X11_isOfKind (T : TM) (c1 : Nat) (p2 : Int32) : narrow .boolean (.int (F_X11_isOfKind T c1 p2)) = .int (F_X11_isOfKind T c1 p2) := by
  unfold F_X11_isOfKind
  repeat' split
  all_goals first | (with_reducible exact isInst_nb ..) | rfl
def F_X11_taken (T : TM) (I : IM) (P : PM) (p1 : Int32) (p2 : Int32) : Option (Int32) := (letb (if p2 < 0 then 0 else (if 5 < p2 then 0 else 1)) (fun y3 : Int32 => (letb (if p2 < 10 then 0 else (if 13 < p2 then 0 else 1)) (fun y6 : Int32 => (if (F_X11_isShelf p1) = 0 then (some (-1)) else (if y3 = 0 then (if y6 = 0 then (some (-1)) else (if inb p1 4 = true then (if (I 85 p1.toNatClampNeg) = 2 then (if inb p1 4 = true then (if (I 86 p1.toNatClampNeg) = (p2 - 10) then (if inb p1 4 = true then (some (I 87 p1.toNatClampNeg)) else none) else (some (-13))) else none) else ((F_X11_thingOn I P p1).bind (fun x23 => (osel x23 (some (-11)) (fun c24 => (if y3 = 0 then (some (-13)) else (if isF T c24 = true then (if (F_X11_isOfKind T c24 p2) = 0 then (some (-13)) else (some (I c24 0))) else none))))))) else none)) else (if inb p1 4 = true then (if (I 85 p1.toNatClampNeg) = 2 then (if inb p1 4 = true then (if (I 86 p1.toNatClampNeg) = (p2 - 10) then (if inb p1 4 = true then (some (I 87 p1.toNatClampNeg)) else none) else (some (-13))) else none) else ((F_X11_thingOn I P p1).bind (fun x11 => (osel x11 (some (-11)) (fun c12 => (if y3 = 0 then (some (-13)) else (if isF T c12 = true then (if (F_X11_isOfKind T c12 p2) = 0 then (some (-13)) else (some (I c12 0))) else none))))))) else none)))))))
set_option maxHeartbeats 4000000 in
theorem ok_X11_taken {E : GE} {T : TM} {I : IM} {J : JM} {P : PM} {p1 : Int32} {p2 : Int32} {x : Int32} (hL : LOK T P) (hF : F_X11_taken T I P p1 p2 = some x) : Ctr E mX11_taken 2 0 0 [.ref 64, .int p1, .int p2] T I J P (some (.int x)) T I J P := by
  unfold F_X11_taken at hF
  refine ctr_intro rfl (by decide +kernel) (Nat.le_of_ble_eq_true rfl) ?_
  refine r_sub (ls' := [(2, .int p2), (1, .int p1), (0, .ref 64)]) [2, 1, 0] rfl ?_
  refine r_iload_n dX11_taken_0 rfl rfl ?_
  refine r_joinB (G1 := fun y3 : Int32 => WW E mX11_taken (RM 2 0 0) (ZM E 0 0 (some (.int x)) T I J P) 0 0 T I J P 14 [(2, .int p2), (1, .int p1), (0, .ref 64)] [.int y3]) hF (fun y3 ny3 hF => ?_) (fun y3 hv hJ => ?_)
  · refine r_istore_n (ls' := [(3, .int y3), (2, .int p2), (1, .int p1), (0, .ref 64)]) dX11_taken_14 rfl (by decide) rfl ?_
    refine r_iload_n dX11_taken_15 rfl rfl ?_
    refine r_bipush (v := 10) dX11_taken_16 (by decide) ?_
    refine r_joinB (G1 := fun y6 : Int32 => WW E mX11_taken (RM 2 0 0) (ZM E 0 0 (some (.int x)) T I J P) 0 0 T I J P 32 [(3, .int y3), (2, .int p2), (1, .int p1), (0, .ref 64)] [.int y6]) hF (fun y6 ny6 hF => ?_) (fun y6 hv hJ => ?_)
    · refine r_istore (ls' := [(4, .int y6), (3, .int y3), (2, .int p2), (1, .int p1), (0, .ref 64)]) dX11_taken_32 (by decide) rfl ?_
      refine r_iload_n dX11_taken_34 rfl rfl ?_
      refine c_static_i (As := [.int p1]) mi_X11_isShelf kw_773 kw_772 (ok_X11_isShelf hL  (p1 := p1)) rfl rfl (Nat.le_of_ble_eq_true rfl) ⟨Nat.le_of_ble_eq_true rfl, Nat.le_of_ble_eq_true rfl⟩ ⟨Nat.le_of_ble_eq_true rfl, Nat.le_of_ble_eq_true rfl⟩ dX11_taken_35 ?_
      refine r_if_eq (tgt := 50) dX11_taken_38 (by decide) (fun h7 => ?_) (fun h7 => ?_)
      · have hF := tw hF h7
        refine r_iconst (v := (-1)) dX11_taken_50 (by decide) ?_
        obtain rfl := Option.some.inj hF
        exact r_ireturn (x := (-1)) rfl rfl dX11_taken_51 (Nat.le_of_ble_eq_true rfl) (Nat.le_of_ble_eq_true rfl)
      · have hF := fw hF h7
        refine r_iload_n dX11_taken_41 rfl rfl ?_
        refine r_if_ne (tgt := 52) dX11_taken_42 (by decide) (fun h8 => ?_) (fun h8 => ?_)
        · have hF := fw hF h8
          refine r_aload_n dX11_taken_52 rfl rfl ?_
          refine r_getP lk_X11_42 (ln_64 hL) (pp_64_7 hL) dX11_taken_53 ?_
          refine r_iload_n dX11_taken_56 rfl rfl ?_
          obtain ⟨g9, hF⟩ := gd hF
          refine r_iald (ln_85 hL) (by rw [(nl_85 hL)]; exact g9) dX11_taken_57 ?_
          refine r_iconst (v := 2) dX11_taken_58 (by decide) ?_
          refine r_icmp_ne (tgt := 87) dX11_taken_59 (by decide) (fun h10 => ?_) (fun h10 => ?_)
          · have hF := fw hF h10
            refine r_aload_n dX11_taken_87 rfl rfl ?_
            refine r_iload_n dX11_taken_88 rfl rfl ?_
            obtain ⟨x11, hx11, hF⟩ := bnd hF
            refine c_virt_q (As := [.int p1]) mi_X11_thingOn kw_789 ks_23 kw_787 rfl (by decide) (ln_64 hL) (ok_X11_thingOn hL  hx11) rfl rfl (Nat.le_of_ble_eq_true rfl) ⟨Nat.le_of_ble_eq_true rfl, Nat.le_of_ble_eq_true rfl⟩ ⟨Nat.le_of_ble_eq_true rfl, Nat.le_of_ble_eq_true rfl⟩ dX11_taken_89 ?_
            rcases q16 : x11 with _ | c12
            · have hF := (osel_n q16).symm.trans hF
              (try rw [q16])
              show WW _ _ _ _ _ _ _ _ _ _ _ _ (.null :: _)
              refine r_astoreN (ls' := [(5, .null), (4, .int y6), (3, .int y3), (2, .int p2), (1, .int p1), (0, .ref 64)]) dX11_taken_92 (by decide) rfl ?_
              refine r_aloadN dX11_taken_94 rfl ?_
              refine r_ifnonnullN dX11_taken_96 ?_
              refine r_bipush (v := (-11)) dX11_taken_99 (by decide) ?_
              obtain rfl := Option.some.inj hF
              exact r_ireturn (x := (-11)) rfl rfl dX11_taken_101 (Nat.le_of_ble_eq_true rfl) (Nat.le_of_ble_eq_true rfl)
            · have hF := (osel_s q16).symm.trans hF
              (try rw [q16])
              show WW _ _ _ _ _ _ _ _ _ _ _ _ (.ref c12 :: _)
              refine r_astore (ls' := [(5, .ref c12), (4, .int y6), (3, .int y3), (2, .int p2), (1, .int p1), (0, .ref 64)]) dX11_taken_92 (by decide) rfl ?_
              refine r_aload dX11_taken_94 rfl ?_
              refine r_ifnonnull (tgt := 102) dX11_taken_96 (by decide) ?_
              refine r_iload_n dX11_taken_102 rfl rfl ?_
              refine r_if_eq (tgt := 123) dX11_taken_103 (by decide) (fun h13 => ?_) (fun h13 => ?_)
              · have hF := tw hF h13
                refine r_bipush (v := (-13)) dX11_taken_123 (by decide) ?_
                obtain rfl := Option.some.inj hF
                exact r_ireturn (x := (-13)) rfl rfl dX11_taken_125 (Nat.le_of_ble_eq_true rfl) (Nat.le_of_ble_eq_true rfl)
              · have hF := fw hF h13
                refine r_aload dX11_taken_106 rfl ?_
                refine r_iload_n dX11_taken_108 rfl rfl ?_
                obtain ⟨g14, hF⟩ := gd hF
                refine c_static_i (As := [.ref c12, .int p2]) mi_X11_isOfKind kw_792 kw_791 (ok_X11_isOfKind hL g14 (c1 := c12) (p2 := p2)) rfl rfl (Nat.le_of_ble_eq_true rfl) ⟨Nat.le_of_ble_eq_true rfl, Nat.le_of_ble_eq_true rfl⟩ ⟨Nat.le_of_ble_eq_true rfl, Nat.le_of_ble_eq_true rfl⟩ dX11_taken_109 ?_
                refine r_if_eq (tgt := 123) dX11_taken_112 (by decide) (fun h15 => ?_) (fun h15 => ?_)
                · have hF := tw hF h15
                  refine r_bipush (v := (-13)) dX11_taken_123 (by decide) ?_
                  obtain rfl := Option.some.inj hF
                  exact r_ireturn (x := (-13)) rfl rfl dX11_taken_125 (Nat.le_of_ble_eq_true rfl) (Nat.le_of_ble_eq_true rfl)
                · have hF := fw hF h15
                  refine r_aload dX11_taken_115 rfl ?_
                  refine r_getF lf_X11_140 g14 dX11_taken_117 ?_
                  refine r_goto (tgt := 125) dX11_taken_120 (by decide) ?_
                  obtain rfl := Option.some.inj hF
                  exact r_ireturn (x := (I c12 0)) rfl rfl dX11_taken_125 (Nat.le_of_ble_eq_true rfl) (Nat.le_of_ble_eq_true rfl)
          · have hF := tw hF h10
            refine r_aload_n dX11_taken_62 rfl rfl ?_
            refine r_getP lk_X11_46 (ln_64 hL) (pp_64_8 hL) dX11_taken_63 ?_
            refine r_iload_n dX11_taken_66 rfl rfl ?_
            obtain ⟨g17, hF⟩ := gd hF
            refine r_iald (ln_86 hL) (by rw [(nl_86 hL)]; exact g17) dX11_taken_67 ?_
            refine r_iload_n dX11_taken_68 rfl rfl ?_
            refine r_bipush (v := 10) dX11_taken_69 (by decide) ?_
            refine r_isub dX11_taken_71 ?_
            refine r_icmp_ne (tgt := 84) dX11_taken_72 (by decide) (fun h18 => ?_) (fun h18 => ?_)
            · have hF := fw hF h18
              refine r_bipush (v := (-13)) dX11_taken_84 (by decide) ?_
              obtain rfl := Option.some.inj hF
              exact r_ireturn (x := (-13)) rfl rfl dX11_taken_86 (Nat.le_of_ble_eq_true rfl) (Nat.le_of_ble_eq_true rfl)
            · have hF := tw hF h18
              refine r_aload_n dX11_taken_75 rfl rfl ?_
              refine r_getP lk_X11_49 (ln_64 hL) (pp_64_9 hL) dX11_taken_76 ?_
              refine r_iload_n dX11_taken_79 rfl rfl ?_
              obtain ⟨g19, hF⟩ := gd hF
              refine r_iald (ln_87 hL) (by rw [(nl_87 hL)]; exact g19) dX11_taken_80 ?_
              refine r_goto (tgt := 86) dX11_taken_81 (by decide) ?_
              obtain rfl := Option.some.inj hF
              exact r_ireturn (x := (I 87 p1.toNatClampNeg)) rfl rfl dX11_taken_86 (Nat.le_of_ble_eq_true rfl) (Nat.le_of_ble_eq_true rfl)
        · have hF := tw hF h8
          refine r_iload dX11_taken_45 rfl ?_
          refine r_if_ne (tgt := 52) dX11_taken_47 (by decide) (fun h20 => ?_) (fun h20 => ?_)
          · have hF := fw hF h20
            refine r_aload_n dX11_taken_52 rfl rfl ?_
            refine r_getP lk_X11_42 (ln_64 hL) (pp_64_7 hL) dX11_taken_53 ?_
            refine r_iload_n dX11_taken_56 rfl rfl ?_
            obtain ⟨g21, hF⟩ := gd hF
            refine r_iald (ln_85 hL) (by rw [(nl_85 hL)]; exact g21) dX11_taken_57 ?_
            refine r_iconst (v := 2) dX11_taken_58 (by decide) ?_
            refine r_icmp_ne (tgt := 87) dX11_taken_59 (by decide) (fun h22 => ?_) (fun h22 => ?_)
            · have hF := fw hF h22
              refine r_aload_n dX11_taken_87 rfl rfl ?_
              refine r_iload_n dX11_taken_88 rfl rfl ?_
              obtain ⟨x23, hx23, hF⟩ := bnd hF
              refine c_virt_q (As := [.int p1]) mi_X11_thingOn kw_789 ks_23 kw_787 rfl (by decide) (ln_64 hL) (ok_X11_thingOn hL  hx23) rfl rfl (Nat.le_of_ble_eq_true rfl) ⟨Nat.le_of_ble_eq_true rfl, Nat.le_of_ble_eq_true rfl⟩ ⟨Nat.le_of_ble_eq_true rfl, Nat.le_of_ble_eq_true rfl⟩ dX11_taken_89 ?_
              rcases q28 : x23 with _ | c24
              · have hF := (osel_n q28).symm.trans hF
                (try rw [q28])
                show WW _ _ _ _ _ _ _ _ _ _ _ _ (.null :: _)
                refine r_astoreN (ls' := [(5, .null), (4, .int y6), (3, .int y3), (2, .int p2), (1, .int p1), (0, .ref 64)]) dX11_taken_92 (by decide) rfl ?_
                refine r_aloadN dX11_taken_94 rfl ?_
                refine r_ifnonnullN dX11_taken_96 ?_
                refine r_bipush (v := (-11)) dX11_taken_99 (by decide) ?_
                obtain rfl := Option.some.inj hF
                exact r_ireturn (x := (-11)) rfl rfl dX11_taken_101 (Nat.le_of_ble_eq_true rfl) (Nat.le_of_ble_eq_true rfl)
              · have hF := (osel_s q28).symm.trans hF
                (try rw [q28])
                show WW _ _ _ _ _ _ _ _ _ _ _ _ (.ref c24 :: _)
                refine r_astore (ls' := [(5, .ref c24), (4, .int y6), (3, .int y3), (2, .int p2), (1, .int p1), (0, .ref 64)]) dX11_taken_92 (by decide) rfl ?_
                refine r_aload dX11_taken_94 rfl ?_
                refine r_ifnonnull (tgt := 102) dX11_taken_96 (by decide) ?_
                refine r_iload_n dX11_taken_102 rfl rfl ?_
                refine r_if_eq (tgt := 123) dX11_taken_103 (by decide) (fun h25 => ?_) (fun h25 => ?_)
                · have hF := tw hF h25
                  refine r_bipush (v := (-13)) dX11_taken_123 (by decide) ?_
                  obtain rfl := Option.some.inj hF
                  exact r_ireturn (x := (-13)) rfl rfl dX11_taken_125 (Nat.le_of_ble_eq_true rfl) (Nat.le_of_ble_eq_true rfl)
                · have hF := fw hF h25
                  refine r_aload dX11_taken_106 rfl ?_
                  refine r_iload_n dX11_taken_108 rfl rfl ?_
                  obtain ⟨g26, hF⟩ := gd hF
                  refine c_static_i (As := [.ref c24, .int p2]) mi_X11_isOfKind kw_792 kw_791 (ok_X11_isOfKind hL g26 (c1 := c24) (p2 := p2)) rfl rfl (Nat.le_of_ble_eq_true rfl) ⟨Nat.le_of_ble_eq_true rfl, Nat.le_of_ble_eq_true rfl⟩ ⟨Nat.le_of_ble_eq_true rfl, Nat.le_of_ble_eq_true rfl⟩ dX11_taken_109 ?_
                  refine r_if_eq (tgt := 123) dX11_taken_112 (by decide) (fun h27 => ?_) (fun h27 => ?_)
                  · have hF := tw hF h27
                    refine r_bipush (v := (-13)) dX11_taken_123 (by decide) ?_
                    obtain rfl := Option.some.inj hF
                    exact r_ireturn (x := (-13)) rfl rfl dX11_taken_125 (Nat.le_of_ble_eq_true rfl) (Nat.le_of_ble_eq_true rfl)
                  · have hF := fw hF h27
                    refine r_aload dX11_taken_115 rfl ?_
                    refine r_getF lf_X11_140 g26 dX11_taken_117 ?_
                    refine r_goto (tgt := 125) dX11_taken_120 (by decide) ?_
                    obtain rfl := Option.some.inj hF
                    exact r_ireturn (x := (I c24 0)) rfl rfl dX11_taken_125 (Nat.le_of_ble_eq_true rfl) (Nat.le_of_ble_eq_true rfl)
            · have hF := tw hF h22
              refine r_aload_n dX11_taken_62 rfl rfl ?_
              refine r_getP lk_X11_46 (ln_64 hL) (pp_64_8 hL) dX11_taken_63 ?_
              refine r_iload_n dX11_taken_66 rfl rfl ?_
              obtain ⟨g29, hF⟩ := gd hF
              refine r_iald (ln_86 hL) (by rw [(nl_86 hL)]; exact g29) dX11_taken_67 ?_
              refine r_iload_n dX11_taken_68 rfl rfl ?_
              refine r_bipush (v := 10) dX11_taken_69 (by decide) ?_
              refine r_isub dX11_taken_71 ?_
              refine r_icmp_ne (tgt := 84) dX11_taken_72 (by decide) (fun h30 => ?_) (fun h30 => ?_)
              · have hF := fw hF h30
                refine r_bipush (v := (-13)) dX11_taken_84 (by decide) ?_
                obtain rfl := Option.some.inj hF
                exact r_ireturn (x := (-13)) rfl rfl dX11_taken_86 (Nat.le_of_ble_eq_true rfl) (Nat.le_of_ble_eq_true rfl)
              · have hF := tw hF h30
                refine r_aload_n dX11_taken_75 rfl rfl ?_
                refine r_getP lk_X11_49 (ln_64 hL) (pp_64_9 hL) dX11_taken_76 ?_
                refine r_iload_n dX11_taken_79 rfl rfl ?_
                obtain ⟨g31, hF⟩ := gd hF
                refine r_iald (ln_87 hL) (by rw [(nl_87 hL)]; exact g31) dX11_taken_80 ?_
                refine r_goto (tgt := 86) dX11_taken_81 (by decide) ?_
                obtain rfl := Option.some.inj hF
                exact r_ireturn (x := (I 87 p1.toNatClampNeg)) rfl rfl dX11_taken_86 (Nat.le_of_ble_eq_true rfl) (Nat.le_of_ble_eq_true rfl)
          · have hF := tw hF h20
            refine r_iconst (v := (-1)) dX11_taken_50 (by decide) ?_
            obtain rfl := Option.some.inj hF
            exact r_ireturn (x := (-1)) rfl rfl dX11_taken_51 (Nat.le_of_ble_eq_true rfl) (Nat.le_of_ble_eq_true rfl)
    · refine r_icmp_lt (tgt := 31) dX11_taken_18 (by decide) (fun h4 => ?_) (fun h4 => ?_)
      · have hv := tw hv h4
        refine r_iconst (v := 0) dX11_taken_31 (by decide) ?_
        obtain rfl := hv
        exact hJ (by first | exact nbz0 | exact nbz1)
      · have hv := fw hv h4
        refine r_iload_n dX11_taken_21 rfl rfl ?_
        refine r_bipush (v := 13) dX11_taken_22 (by decide) ?_
        refine r_icmp_gt (tgt := 31) dX11_taken_24 (by decide) (fun h5 => ?_) (fun h5 => ?_)
        · have hv := tw hv h5
          refine r_iconst (v := 0) dX11_taken_31 (by decide) ?_
          obtain rfl := hv
          exact hJ (by first | exact nbz0 | exact nbz1)
        · have hv := fw hv h5
          refine r_iconst (v := 1) dX11_taken_27 (by decide) ?_
          refine r_goto (tgt := 32) dX11_taken_28 (by decide) ?_
          obtain rfl := hv
          exact hJ (by first | exact nbz0 | exact nbz1)
  · refine r_if_lt (tgt := 13) dX11_taken_1 (by decide) (fun h1 => ?_) (fun h1 => ?_)
    · have hv := tw hv h1
      refine r_iconst (v := 0) dX11_taken_13 (by decide) ?_
      obtain rfl := hv
      exact hJ (by first | exact nbz0 | exact nbz1)
    · have hv := fw hv h1
      refine r_iload_n dX11_taken_4 rfl rfl ?_
      refine r_iconst (v := 5) dX11_taken_5 (by decide) ?_
      refine r_icmp_gt (tgt := 13) dX11_taken_6 (by decide) (fun h2 => ?_) (fun h2 => ?_)
      · have hv := tw hv h2
        refine r_iconst (v := 0) dX11_taken_13 (by decide) ?_
        obtain rfl := hv
        exact hJ (by first | exact nbz0 | exact nbz1)
      · have hv := fw hv h2
        refine r_iconst (v := 1) dX11_taken_9 (by decide) ?_
        refine r_goto (tgt := 14) dX11_taken_10 (by decide) ?_
        obtain rfl := hv
        exact hJ (by first | exact nbz0 | exact nbz1)
def F_X7_clear (I : IM) : Option (IM) := (letb (up2 I 82 1 0) (fun I1 : IM => (letb (up2 I1 82 2 0) (fun I2 : IM => (some I2)))))
set_option maxHeartbeats 4000000 in
theorem ok_X7_clear {E : GE} {T : TM} {I : IM} {J : JM} {P : PM} {x : IM} (hL : LOK T P) (hF : F_X7_clear I = some x) : Ctr E mX7_clear 0 0 0 [.ref 82] T I J P none T x J P := by
  unfold F_X7_clear at hF
  refine ctr_intro rfl (by decide +kernel) (Nat.le_of_ble_eq_true rfl) ?_
  refine r_sub (ls' := [(0, .ref 82)]) [0] rfl ?_
  refine r_aload_n dX7_clear_0 rfl rfl ?_
  refine r_iconst (v := 0) dX7_clear_1 (by decide) ?_
  refine r_putI lk_X7_15 (Or.inl rfl) (ln_82 hL) rfl rfl dX7_clear_2 ?_
  refine r_letI hF (fun I1 hF => ?_)
  refine r_aload_n dX7_clear_5 rfl rfl ?_
  refine r_iconst (v := 0) dX7_clear_6 (by decide) ?_
  refine r_putI lk_X7_19 (Or.inl rfl) (ln_82 hL) rfl rfl dX7_clear_7 ?_
  refine r_letI hF (fun I2 hF => ?_)
  obtain rfl := Option.some.inj hF
  exact r_return rfl dX7_clear_10 (Nat.le_of_ble_eq_true rfl) (Nat.le_of_ble_eq_true rfl)
def F_X7_began (I : IM) (p1 : Int32) : Option (IM) := (if (I 82 2) = 0 then (if 30 ≤ (I 82 1) then (some I) else (if inb (I 82 1) 30 = true then (letb (up2 I 83 (I 82 1).toNatClampNeg p1) (fun I6 : IM => (letb (up2 I6 82 1 ((I6 82 1) + 1)) (fun I7 : IM => (some I7))))) else none)) else (some I))
set_option maxHeartbeats 4000000 in
theorem ok_X7_began {E : GE} {T : TM} {I : IM} {J : JM} {P : PM} {p1 : Int32} {x : IM} (hL : LOK T P) (hF : F_X7_began I p1 = some x) : Ctr E mX7_began 0 0 0 [.ref 82, .int p1] T I J P none T x J P := by
  unfold F_X7_began at hF
  refine ctr_intro rfl (by decide +kernel) (Nat.le_of_ble_eq_true rfl) ?_
  refine r_sub (ls' := [(1, .int p1), (0, .ref 82)]) [1, 0] rfl ?_
  refine r_aload_n dX7_began_0 rfl rfl ?_
  refine r_getI lk_X7_19 (ln_82 hL) dX7_began_1 ?_
  refine r_if_ne (tgt := 36) dX7_began_4 (by decide) (fun h2 => ?_) (fun h2 => ?_)
  · have hF := fw hF h2
    obtain rfl := Option.some.inj hF
    exact r_return rfl dX7_began_36 (Nat.le_of_ble_eq_true rfl) (Nat.le_of_ble_eq_true rfl)
  · have hF := tw hF h2
    refine r_aload_n dX7_began_7 rfl rfl ?_
    refine r_getI lk_X7_15 (ln_82 hL) dX7_began_8 ?_
    refine r_bipush (v := 30) dX7_began_11 (by decide) ?_
    refine r_icmp_ge (tgt := 36) dX7_began_13 (by decide) (fun h4 => ?_) (fun h4 => ?_)
    · have hF := tw hF h4
      obtain rfl := Option.some.inj hF
      exact r_return rfl dX7_began_36 (Nat.le_of_ble_eq_true rfl) (Nat.le_of_ble_eq_true rfl)
    · have hF := fw hF h4
      refine r_aload_n dX7_began_16 rfl rfl ?_
      refine r_getP lk_X7_9 (ln_82 hL) (pp_82_0 hL) dX7_began_17 ?_
      refine r_aload_n dX7_began_20 rfl rfl ?_
      refine r_getI lk_X7_15 (ln_82 hL) dX7_began_21 ?_
      refine r_iload_n dX7_began_24 rfl rfl ?_
      obtain ⟨g5, hF⟩ := gd hF
      refine r_iast (ln_83 hL) (by rw [(nl_83 hL)]; exact g5) dX7_began_25 ?_
      refine r_letI hF (fun I6 hF => ?_)
      refine r_aload_n dX7_began_26 rfl rfl ?_
      refine r_dup dX7_began_27 rfl ?_
      refine r_getI lk_X7_15 (ln_82 hL) dX7_began_28 ?_
      refine r_iconst (v := 1) dX7_began_31 (by decide) ?_
      refine r_iadd dX7_began_32 ?_
      refine r_putI lk_X7_15 (Or.inl rfl) (ln_82 hL) rfl rfl dX7_began_33 ?_
      refine r_letI hF (fun I7 hF => ?_)
      obtain rfl := Option.some.inj hF
      exact r_return rfl dX7_began_36 (Nat.le_of_ble_eq_true rfl) (Nat.le_of_ble_eq_true rfl)
def F_X0_falls (T : TM) (I : IM) (c : Nat) (p1 : Int32) : Option (Int32 × IM) := ((F_X7_began I 10).bind (fun x1 => (some ((p1 + (x1 c 0)), x1))))
set_option maxHeartbeats 4000000 in
theorem ok_X0_falls {E : GE} {T : TM} {I : IM} {J : JM} {P : PM} {c : Nat} {p1 : Int32} {x : Int32 × IM} (hL : LOK T P) (hc : isF T c = true) (hF : F_X0_falls T I c p1 = some x) : Ctr E mX0_falls 1 0 0 [.ref c, .int p1, .ref 82] T I J P (some (.int x.1)) T x.2 J P := by
  unfold F_X0_falls at hF
  refine ctr_intro rfl (by decide +kernel) (Nat.le_of_ble_eq_true rfl) ?_
  refine r_sub (ls' := [(2, .ref 82), (1, .int p1), (0, .ref c)]) [2, 1, 0] rfl ?_
  refine r_aload_n dX0_falls_0 rfl rfl ?_
  refine r_bipush (v := 10) dX0_falls_1 (by decide) ?_
  obtain ⟨x1, hx1, hF⟩ := bnd hF
  refine c_virt_v (As := [.int 10]) mi_X7_began kw_815 kw_816 kw_830 rfl (by decide) (ln_82 hL) (ok_X7_began hL  hx1) rfl rfl (Nat.le_of_ble_eq_true rfl) ⟨Nat.le_of_ble_eq_true rfl, Nat.le_of_ble_eq_true rfl⟩ ⟨Nat.le_of_ble_eq_true rfl, Nat.le_of_ble_eq_true rfl⟩ dX0_falls_3 ?_
  refine r_iload_n dX0_falls_6 rfl rfl ?_
  refine r_aload_n dX0_falls_7 rfl rfl ?_
  refine r_getF lf_X0_9 hc dX0_falls_8 ?_
  refine r_iadd dX0_falls_11 ?_
  obtain rfl := Option.some.inj hF
  exact r_ireturn (x := (p1 + (x1 c 0))) rfl rfl dX0_falls_12 (Nat.le_of_ble_eq_true rfl) (Nat.le_of_ble_eq_true rfl)
def F_X2_falls (T : TM) (I : IM) (c : Nat) (p1 : Int32) : Option (Int32 × IM) := ((F_X7_began I 51).bind (fun x1 => ((F_X0_falls T x1 c p1).bind (fun x2 => (some ((x2.1 - (x2.2 c 0)), x2.2))))))
set_option maxHeartbeats 4000000 in
theorem ok_X2_falls {E : GE} {T : TM} {I : IM} {J : JM} {P : PM} {c : Nat} {p1 : Int32} {x : Int32 × IM} (hL : LOK T P) (hc : isF T c = true) (hF : F_X2_falls T I c p1 = some x) : Ctr E mX2_falls 2 0 0 [.ref c, .int p1, .ref 82] T I J P (some (.int x.1)) T x.2 J P := by
  unfold F_X2_falls at hF
  refine ctr_intro rfl (by decide +kernel) (Nat.le_of_ble_eq_true rfl) ?_
  refine r_sub (ls' := [(2, .ref 82), (1, .int p1), (0, .ref c)]) [2, 1, 0] rfl ?_
  refine r_aload_n dX2_falls_0 rfl rfl ?_
  refine r_bipush (v := 51) dX2_falls_1 (by decide) ?_
  obtain ⟨x1, hx1, hF⟩ := bnd hF
  refine c_virt_v (As := [.int 51]) mi_X7_began kw_815 kw_816 kw_814 rfl (by decide) (ln_82 hL) (ok_X7_began hL  hx1) rfl rfl (Nat.le_of_ble_eq_true rfl) ⟨Nat.le_of_ble_eq_true rfl, Nat.le_of_ble_eq_true rfl⟩ ⟨Nat.le_of_ble_eq_true rfl, Nat.le_of_ble_eq_true rfl⟩ dX2_falls_3 ?_
  refine r_aload_n dX2_falls_6 rfl rfl ?_
  refine r_iload_n dX2_falls_7 rfl rfl ?_
  refine r_aload_n dX2_falls_8 rfl rfl ?_
  obtain ⟨x2, hx2, hF⟩ := bnd hF
  refine c_super_i (As := [.int p1, .ref 82]) mi_X0_falls rfl kw_818 kw_819 kw_463 (Or.inr kw_430) kw_808 (by decide) hc (ok_X0_falls hL hc hx2) rfl rfl (Nat.le_of_ble_eq_true rfl) ⟨Nat.le_of_ble_eq_true rfl, Nat.le_of_ble_eq_true rfl⟩ ⟨Nat.le_of_ble_eq_true rfl, Nat.le_of_ble_eq_true rfl⟩ dX2_falls_9 ?_
  refine r_aload_n dX2_falls_12 rfl rfl ?_
  refine r_getF lf_X2_26 hc dX2_falls_13 ?_
  refine r_isub dX2_falls_16 ?_
  obtain rfl := Option.some.inj hF
  exact r_ireturn (x := (x2.1 - (x2.2 c 0))) rfl rfl dX2_falls_17 (Nat.le_of_ble_eq_true rfl) (Nat.le_of_ble_eq_true rfl)
def F_X5_falls (T : TM) (I : IM) (c : Nat) (p1 : Int32) : Option (Int32 × IM) := ((F_X7_began I 30).bind (fun x1 => ((F_X0_falls T x1 c p1).bind (fun x2 => (some ((x2.1 * 3), x2.2))))))
set_option maxHeartbeats 4000000 in
theorem ok_X5_falls {E : GE} {T : TM} {I : IM} {J : JM} {P : PM} {c : Nat} {p1 : Int32} {x : Int32 × IM} (hL : LOK T P) (hc : isF T c = true) (hk : T.2.1 c = 5) (hF : F_X5_falls T I c p1 = some x) : Ctr E mX5_falls 2 0 0 [.ref c, .int p1, .ref 82] T I J P (some (.int x.1)) T x.2 J P := by
  unfold F_X5_falls at hF
  refine ctr_intro rfl (by decide +kernel) (Nat.le_of_ble_eq_true rfl) ?_
  refine r_sub (ls' := [(2, .ref 82), (1, .int p1), (0, .ref c)]) [2, 1, 0] rfl ?_
  refine r_aload_n dX5_falls_0 rfl rfl ?_
  refine r_bipush (v := 30) dX5_falls_1 (by decide) ?_
  obtain ⟨x1, hx1, hF⟩ := bnd hF
  refine c_virt_v (As := [.int 30]) mi_X7_began kw_815 kw_816 kw_825 rfl (by decide) (ln_82 hL) (ok_X7_began hL  hx1) rfl rfl (Nat.le_of_ble_eq_true rfl) ⟨Nat.le_of_ble_eq_true rfl, Nat.le_of_ble_eq_true rfl⟩ ⟨Nat.le_of_ble_eq_true rfl, Nat.le_of_ble_eq_true rfl⟩ dX5_falls_3 ?_
  refine r_aload_n dX5_falls_6 rfl rfl ?_
  refine r_iload_n dX5_falls_7 rfl rfl ?_
  refine r_aload_n dX5_falls_8 rfl rfl ?_
  obtain ⟨x2, hx2, hF⟩ := bnd hF
  refine c_super_i (As := [.int p1, .ref 82]) mi_X0_falls rfl kw_826 kw_810 kw_441 (Or.inl rfl) kw_808 (by decide) hc (ok_X0_falls hL hc hx2) rfl rfl (Nat.le_of_ble_eq_true rfl) ⟨Nat.le_of_ble_eq_true rfl, Nat.le_of_ble_eq_true rfl⟩ ⟨Nat.le_of_ble_eq_true rfl, Nat.le_of_ble_eq_true rfl⟩ dX5_falls_9 ?_
  refine r_iconst (v := 3) dX5_falls_12 (by decide) ?_
  refine r_imul dX5_falls_13 ?_
  obtain rfl := Option.some.inj hF
  exact r_ireturn (x := (x2.1 * 3)) rfl rfl dX5_falls_14 (Nat.le_of_ble_eq_true rfl) (Nat.le_of_ble_eq_true rfl)
def F_V_falls (T : TM) (I : IM) (c : Nat) (p1 : Int32) : Option (Int32 × IM) := (if T.2.1 c = 0 then F_X0_falls T I c p1 else (if T.2.1 c = 2 then F_X2_falls T I c p1 else (if T.2.1 c = 4 then F_X0_falls T I c p1 else (if T.2.1 c = 5 then F_X5_falls T I c p1 else (if T.2.1 c = 8 then F_X0_falls T I c p1 else (if T.2.1 c = 9 then F_X0_falls T I c p1 else none))))))
set_option maxHeartbeats 4000000 in
theorem vs_X0_38 {E : GE} {M : MD} {R : Room} {Z : State → Array Value → List Frame → State → Prop} {kc ks : Nat} {T : TM} {I : IM} {J : JM} {P : PM} {pc : Nat} {ls : List (Nat × Value)} {st stk : List Value} {c : Nat} {p1 : Int32} {x : Int32 × IM} (hL : LOK T P) (hc : isF T c = true) (hx : F_V_falls T I c p1 = some x) (hown : M.1.cls = RX0) (hstk : stk = [.int p1, .ref 82].reverse ++ .ref c :: st) (hcat : (st.map fun v => v.category).sum ≤ 8) (hR : 2 + 1 ≤ R.frames ∧ 36 + 37 * 2 ≤ R.locals) (hf : kc ≤ R.cells ∧ ks ≤ R.slots) (hd : decode M.2.1 pc = .ok (.invokevirtual 38, 3)) (kk : WW E M R Z kc ks T x.2 J P (pc + 3) ls (.int x.1 :: st)) : WW E M R Z kc ks T I J P pc ls stk := by
  obtain ⟨ci, hci, hI⟩ := isF_of hc
  unfold F_V_falls at hx
  have hk := hI.2.2
  simp only [fks, List.mem_cons, List.not_mem_nil, or_false] at hci
  rcases hci with rfl | rfl | rfl | rfl | rfl | rfl
  · have hx := tw (hx) hk
    exact c_virtU_i (ci := 0) (x0 := yX0_falls) mi_X0_falls (by rw [hown]; exact kw_849) kw_810 kw_808 kw_809 kw_808 kw_829 ⟨by decide, by decide, by decide +kernel⟩ rfl (by decide) hI (ok_X0_falls hL hc hx) rfl hstk hcat ⟨Nat.le_trans (Nat.le_of_ble_eq_true rfl : 1 + 1 ≤ 2 + 1) hR.1, Nat.le_trans (Nat.le_of_ble_eq_true rfl : 8 + (mX0_falls.2.2.1 + 11) + 37 * 1 ≤ 36 + 37 * 2) hR.2⟩ hf hd kk
  · have hx := tw (fw (hx) (by rw [hk]; decide)) hk
    exact c_virtU_i (ci := 2) (x0 := yX0_falls) mi_X2_falls (by rw [hown]; exact kw_849) kw_810 kw_808 kw_811 kw_812 kw_829 ⟨by decide, by decide, by decide +kernel⟩ rfl (by decide) hI (ok_X2_falls hL hc hx) rfl hstk hcat ⟨Nat.le_trans (Nat.le_of_ble_eq_true rfl : 2 + 1 ≤ 2 + 1) hR.1, Nat.le_trans (Nat.le_of_ble_eq_true rfl : 8 + (mX2_falls.2.2.1 + 11) + 37 * 2 ≤ 36 + 37 * 2) hR.2⟩ hf hd kk
  · have hx := tw (fw (fw (hx) (by rw [hk]; decide)) (by rw [hk]; decide)) hk
    exact c_virtU_i (ci := 4) (x0 := yX0_falls) mi_X0_falls (by rw [hown]; exact kw_849) kw_810 kw_808 kw_821 kw_808 kw_829 ⟨by decide, by decide, by decide +kernel⟩ rfl (by decide) hI (ok_X0_falls hL hc hx) rfl hstk hcat ⟨Nat.le_trans (Nat.le_of_ble_eq_true rfl : 1 + 1 ≤ 2 + 1) hR.1, Nat.le_trans (Nat.le_of_ble_eq_true rfl : 8 + (mX0_falls.2.2.1 + 11) + 37 * 1 ≤ 36 + 37 * 2) hR.2⟩ hf hd kk
  · have hx := tw (fw (fw (fw (hx) (by rw [hk]; decide)) (by rw [hk]; decide)) (by rw [hk]; decide)) hk
    exact c_virtU_i (ci := 5) (x0 := yX0_falls) mi_X5_falls (by rw [hown]; exact kw_849) kw_810 kw_808 kw_822 kw_823 kw_829 ⟨by decide, by decide, by decide +kernel⟩ rfl (by decide) hI (ok_X5_falls hL hc hk hx) rfl hstk hcat ⟨Nat.le_trans (Nat.le_of_ble_eq_true rfl : 2 + 1 ≤ 2 + 1) hR.1, Nat.le_trans (Nat.le_of_ble_eq_true rfl : 8 + (mX5_falls.2.2.1 + 11) + 37 * 2 ≤ 36 + 37 * 2) hR.2⟩ hf hd kk
  · have hx := tw (fw (fw (fw (fw (hx) (by rw [hk]; decide)) (by rw [hk]; decide)) (by rw [hk]; decide)) (by rw [hk]; decide)) hk
    exact c_virtU_i (ci := 8) (x0 := yX0_falls) mi_X0_falls (by rw [hown]; exact kw_849) kw_810 kw_808 kw_827 kw_808 kw_829 ⟨by decide, by decide, by decide +kernel⟩ rfl (by decide) hI (ok_X0_falls hL hc hx) rfl hstk hcat ⟨Nat.le_trans (Nat.le_of_ble_eq_true rfl : 1 + 1 ≤ 2 + 1) hR.1, Nat.le_trans (Nat.le_of_ble_eq_true rfl : 8 + (mX0_falls.2.2.1 + 11) + 37 * 1 ≤ 36 + 37 * 2) hR.2⟩ hf hd kk
  · have hx := tw (fw (fw (fw (fw (fw (hx) (by rw [hk]; decide)) (by rw [hk]; decide)) (by rw [hk]; decide)) (by rw [hk]; decide)) (by rw [hk]; decide)) hk
    exact c_virtU_i (ci := 9) (x0 := yX0_falls) mi_X0_falls (by rw [hown]; exact kw_849) kw_810 kw_808 kw_828 kw_808 kw_829 ⟨by decide, by decide, by decide +kernel⟩ rfl (by decide) hI (ok_X0_falls hL hc hx) rfl hstk hcat ⟨Nat.le_trans (Nat.le_of_ble_eq_true rfl : 1 + 1 ≤ 2 + 1) hR.1, Nat.le_trans (Nat.le_of_ble_eq_true rfl : 8 + (mX0_falls.2.2.1 + 11) + 37 * 1 ≤ 36 + 37 * 2) hR.2⟩ hf hd kk

def F_X0_turns (T : TM) (I : IM) (c : Nat) (p1 : Int32) : Option (Int32 × IM) := ((F_X7_began I 11).bind (fun x1 => ((F_V_falls T x1 c p1).bind (fun x2 => (some ((x2.1 * 2), x2.2))))))
set_option maxHeartbeats 4000000 in
theorem ok_X0_turns {E : GE} {T : TM} {I : IM} {J : JM} {P : PM} {c : Nat} {p1 : Int32} {x : Int32 × IM} (hL : LOK T P) (hc : isF T c = true) (hF : F_X0_turns T I c p1 = some x) : Ctr E mX0_turns 3 0 0 [.ref c, .int p1, .ref 82] T I J P (some (.int x.1)) T x.2 J P := by
  unfold F_X0_turns at hF
  refine ctr_intro rfl (by decide +kernel) (Nat.le_of_ble_eq_true rfl) ?_
  refine r_sub (ls' := [(2, .ref 82), (1, .int p1), (0, .ref c)]) [2, 1, 0] rfl ?_
  refine r_aload_n dX0_turns_0 rfl rfl ?_
  refine r_bipush (v := 11) dX0_turns_1 (by decide) ?_
  obtain ⟨x1, hx1, hF⟩ := bnd hF
  refine c_virt_v (As := [.int 11]) mi_X7_began kw_815 kw_816 kw_830 rfl (by decide) (ln_82 hL) (ok_X7_began hL  hx1) rfl rfl (Nat.le_of_ble_eq_true rfl) ⟨Nat.le_of_ble_eq_true rfl, Nat.le_of_ble_eq_true rfl⟩ ⟨Nat.le_of_ble_eq_true rfl, Nat.le_of_ble_eq_true rfl⟩ dX0_turns_3 ?_
  refine r_aload_n dX0_turns_6 rfl rfl ?_
  refine r_iload_n dX0_turns_7 rfl rfl ?_
  refine r_aload_n dX0_turns_8 rfl rfl ?_
  obtain ⟨x2, hx2, hF⟩ := bnd hF
  refine vs_X0_38 hL hc hx2 rfl rfl (Nat.le_of_ble_eq_true rfl) ⟨Nat.le_of_ble_eq_true rfl, Nat.le_of_ble_eq_true rfl⟩ ⟨Nat.le_of_ble_eq_true rfl, Nat.le_of_ble_eq_true rfl⟩ dX0_turns_9 ?_
  refine r_iconst (v := 2) dX0_turns_12 (by decide) ?_
  refine r_imul dX0_turns_13 ?_
  obtain rfl := Option.some.inj hF
  exact r_ireturn (x := (x2.1 * 2)) rfl rfl dX0_turns_14 (Nat.le_of_ble_eq_true rfl) (Nat.le_of_ble_eq_true rfl)
def F_X4_turns (T : TM) (I : IM) (c : Nat) (p1 : Int32) : Option (Int32 × IM) := ((F_X7_began I 20).bind (fun x1 => ((F_X0_turns T x1 c p1).bind (fun x2 => (some ((x2.1 - (x2.2 c 1)), x2.2))))))
set_option maxHeartbeats 4000000 in
theorem ok_X4_turns {E : GE} {T : TM} {I : IM} {J : JM} {P : PM} {c : Nat} {p1 : Int32} {x : Int32 × IM} (hL : LOK T P) (hc : isF T c = true) (hF : F_X4_turns T I c p1 = some x) : Ctr E mX4_turns 4 0 0 [.ref c, .int p1, .ref 82] T I J P (some (.int x.1)) T x.2 J P := by
  unfold F_X4_turns at hF
  refine ctr_intro rfl (by decide +kernel) (Nat.le_of_ble_eq_true rfl) ?_
  refine r_sub (ls' := [(2, .ref 82), (1, .int p1), (0, .ref c)]) [2, 1, 0] rfl ?_
  refine r_aload_n dX4_turns_0 rfl rfl ?_
  refine r_bipush (v := 20) dX4_turns_1 (by decide) ?_
  obtain ⟨x1, hx1, hF⟩ := bnd hF
  refine c_virt_v (As := [.int 20]) mi_X7_began kw_815 kw_816 kw_838 rfl (by decide) (ln_82 hL) (ok_X7_began hL  hx1) rfl rfl (Nat.le_of_ble_eq_true rfl) ⟨Nat.le_of_ble_eq_true rfl, Nat.le_of_ble_eq_true rfl⟩ ⟨Nat.le_of_ble_eq_true rfl, Nat.le_of_ble_eq_true rfl⟩ dX4_turns_3 ?_
  refine r_aload_n dX4_turns_6 rfl rfl ?_
  refine r_iload_n dX4_turns_7 rfl rfl ?_
  refine r_aload_n dX4_turns_8 rfl rfl ?_
  obtain ⟨x2, hx2, hF⟩ := bnd hF
  refine c_super_i (As := [.int p1, .ref 82]) mi_X0_turns rfl kw_839 kw_834 kw_430 (Or.inl rfl) kw_832 (by decide) hc (ok_X0_turns hL hc hx2) rfl rfl (Nat.le_of_ble_eq_true rfl) ⟨Nat.le_of_ble_eq_true rfl, Nat.le_of_ble_eq_true rfl⟩ ⟨Nat.le_of_ble_eq_true rfl, Nat.le_of_ble_eq_true rfl⟩ dX4_turns_9 ?_
  refine r_aload_n dX4_turns_12 rfl rfl ?_
  refine r_getF lf_X4_17 hc dX4_turns_13 ?_
  refine r_isub dX4_turns_16 ?_
  obtain rfl := Option.some.inj hF
  exact r_ireturn (x := (x2.1 - (x2.2 c 1))) rfl rfl dX4_turns_17 (Nat.le_of_ble_eq_true rfl) (Nat.le_of_ble_eq_true rfl)
def F_X8_turns (T : TM) (I : IM) (c : Nat) (p1 : Int32) : Option (Int32 × IM) := ((F_X7_began I 40).bind (fun x1 => ((F_X0_turns T x1 c p1).bind (fun x2 => (some ((0 - x2.1), x2.2))))))
set_option maxHeartbeats 4000000 in
theorem ok_X8_turns {E : GE} {T : TM} {I : IM} {J : JM} {P : PM} {c : Nat} {p1 : Int32} {x : Int32 × IM} (hL : LOK T P) (hc : isF T c = true) (hF : F_X8_turns T I c p1 = some x) : Ctr E mX8_turns 4 0 0 [.ref c, .int p1, .ref 82] T I J P (some (.int x.1)) T x.2 J P := by
  unfold F_X8_turns at hF
  refine ctr_intro rfl (by decide +kernel) (Nat.le_of_ble_eq_true rfl) ?_
  refine r_sub (ls' := [(2, .ref 82), (1, .int p1), (0, .ref c)]) [2, 1, 0] rfl ?_
  refine r_aload_n dX8_turns_0 rfl rfl ?_
  refine r_bipush (v := 40) dX8_turns_1 (by decide) ?_
  obtain ⟨x1, hx1, hF⟩ := bnd hF
  refine c_virt_v (As := [.int 40]) mi_X7_began kw_815 kw_816 kw_845 rfl (by decide) (ln_82 hL) (ok_X7_began hL  hx1) rfl rfl (Nat.le_of_ble_eq_true rfl) ⟨Nat.le_of_ble_eq_true rfl, Nat.le_of_ble_eq_true rfl⟩ ⟨Nat.le_of_ble_eq_true rfl, Nat.le_of_ble_eq_true rfl⟩ dX8_turns_3 ?_
  refine r_iconst (v := 0) dX8_turns_6 (by decide) ?_
  refine r_aload_n dX8_turns_7 rfl rfl ?_
  refine r_iload_n dX8_turns_8 rfl rfl ?_
  refine r_aload_n dX8_turns_9 rfl rfl ?_
  obtain ⟨x2, hx2, hF⟩ := bnd hF
  refine c_super_i (As := [.int p1, .ref 82]) mi_X0_turns rfl kw_846 kw_834 kw_452 (Or.inl rfl) kw_832 (by decide) hc (ok_X0_turns hL hc hx2) rfl rfl (Nat.le_of_ble_eq_true rfl) ⟨Nat.le_of_ble_eq_true rfl, Nat.le_of_ble_eq_true rfl⟩ ⟨Nat.le_of_ble_eq_true rfl, Nat.le_of_ble_eq_true rfl⟩ dX8_turns_10 ?_
  refine r_isub dX8_turns_13 ?_
  obtain rfl := Option.some.inj hF
  exact r_ireturn (x := (0 - x2.1)) rfl rfl dX8_turns_14 (Nat.le_of_ble_eq_true rfl) (Nat.le_of_ble_eq_true rfl)
def F_X0_shares (T : TM) (I : IM) (c : Nat) (p1 : Int32) : Option (Int32 × IM) := ((F_X7_began I 12).bind (fun x1 => (letb ((x1 c 1) - (x1 c 0)) (fun y2 : Int32 => (if y2 = 0 then (letb (up2 x1 82 2 1) (fun I5 : IM => (some (0, I5)))) else (if ¬ y2 = 0 then (some ((p1 / y2), x1)) else none))))))
set_option maxHeartbeats 4000000 in
theorem ok_X0_shares {E : GE} {T : TM} {I : IM} {J : JM} {P : PM} {c : Nat} {p1 : Int32} {x : Int32 × IM} (hL : LOK T P) (hc : isF T c = true) (hF : F_X0_shares T I c p1 = some x) : Ctr E mX0_shares 1 0 0 [.ref c, .int p1, .ref 82] T I J P (some (.int x.1)) T x.2 J P := by
  unfold F_X0_shares at hF
  refine ctr_intro rfl (by decide +kernel) (Nat.le_of_ble_eq_true rfl) ?_
  refine r_sub (ls' := [(2, .ref 82), (1, .int p1), (0, .ref c)]) [2, 1, 0] rfl ?_
  refine r_aload_n dX0_shares_0 rfl rfl ?_
  refine r_bipush (v := 12) dX0_shares_1 (by decide) ?_
  obtain ⟨x1, hx1, hF⟩ := bnd hF
  refine c_virt_v (As := [.int 12]) mi_X7_began kw_815 kw_816 kw_830 rfl (by decide) (ln_82 hL) (ok_X7_began hL  hx1) rfl rfl (Nat.le_of_ble_eq_true rfl) ⟨Nat.le_of_ble_eq_true rfl, Nat.le_of_ble_eq_true rfl⟩ ⟨Nat.le_of_ble_eq_true rfl, Nat.le_of_ble_eq_true rfl⟩ dX0_shares_3 ?_
  refine r_aload_n dX0_shares_6 rfl rfl ?_
  refine r_getF lf_X0_15 hc dX0_shares_7 ?_
  refine r_aload_n dX0_shares_10 rfl rfl ?_
  refine r_getF lf_X0_9 hc dX0_shares_11 ?_
  refine r_isub dX0_shares_14 ?_
  refine r_letV hF (fun y2 hF => ?_)
  refine r_istore_n (ls' := [(3, .int y2), (2, .ref 82), (1, .int p1), (0, .ref c)]) dX0_shares_15 rfl (by decide) rfl ?_
  refine r_iload_n dX0_shares_16 rfl rfl ?_
  refine r_if_ne (tgt := 27) dX0_shares_17 (by decide) (fun h3 => ?_) (fun h3 => ?_)
  · have hF := fw hF h3
    refine r_iload_n dX0_shares_27 rfl rfl ?_
    refine r_iload_n dX0_shares_28 rfl rfl ?_
    obtain ⟨g4, hF⟩ := gd hF
    refine r_idiv dX0_shares_29 g4 ?_
    obtain rfl := Option.some.inj hF
    exact r_ireturn (x := (p1 / y2)) rfl rfl dX0_shares_30 (Nat.le_of_ble_eq_true rfl) (Nat.le_of_ble_eq_true rfl)
  · have hF := tw hF h3
    refine r_aload_n dX0_shares_20 rfl rfl ?_
    refine r_iconst (v := 1) dX0_shares_21 (by decide) ?_
    refine r_putI lk_X0_42 (Or.inl rfl) (ln_82 hL) rfl rfl dX0_shares_22 ?_
    refine r_letI hF (fun I5 hF => ?_)
    refine r_iconst (v := 0) dX0_shares_25 (by decide) ?_
    obtain rfl := Option.some.inj hF
    exact r_ireturn (x := 0) rfl rfl dX0_shares_26 (Nat.le_of_ble_eq_true rfl) (Nat.le_of_ble_eq_true rfl)
def F_X2_shares (T : TM) (I : IM) (c : Nat) (p1 : Int32) : Option (Int32 × IM) := ((F_X7_began I 50).bind (fun x1 => ((F_X0_shares T x1 c (p1 + 2)).bind (fun x2 => (some ((x2.1 ^^^ 1), x2.2))))))
set_option maxHeartbeats 4000000 in
theorem ok_X2_shares {E : GE} {T : TM} {I : IM} {J : JM} {P : PM} {c : Nat} {p1 : Int32} {x : Int32 × IM} (hL : LOK T P) (hc : isF T c = true) (hF : F_X2_shares T I c p1 = some x) : Ctr E mX2_shares 2 0 0 [.ref c, .int p1, .ref 82] T I J P (some (.int x.1)) T x.2 J P := by
  unfold F_X2_shares at hF
  refine ctr_intro rfl (by decide +kernel) (Nat.le_of_ble_eq_true rfl) ?_
  refine r_sub (ls' := [(2, .ref 82), (1, .int p1), (0, .ref c)]) [2, 1, 0] rfl ?_
  refine r_aload_n dX2_shares_0 rfl rfl ?_
  refine r_bipush (v := 50) dX2_shares_1 (by decide) ?_
  obtain ⟨x1, hx1, hF⟩ := bnd hF
  refine c_virt_v (As := [.int 50]) mi_X7_began kw_815 kw_816 kw_814 rfl (by decide) (ln_82 hL) (ok_X7_began hL  hx1) rfl rfl (Nat.le_of_ble_eq_true rfl) ⟨Nat.le_of_ble_eq_true rfl, Nat.le_of_ble_eq_true rfl⟩ ⟨Nat.le_of_ble_eq_true rfl, Nat.le_of_ble_eq_true rfl⟩ dX2_shares_3 ?_
  refine r_aload_n dX2_shares_6 rfl rfl ?_
  refine r_iload_n dX2_shares_7 rfl rfl ?_
  refine r_iconst (v := 2) dX2_shares_8 (by decide) ?_
  refine r_iadd dX2_shares_9 ?_
  refine r_aload_n dX2_shares_10 rfl rfl ?_
  obtain ⟨x2, hx2, hF⟩ := bnd hF
  refine c_super_i (As := [.int (p1 + 2), .ref 82]) mi_X0_shares rfl kw_857 kw_858 kw_463 (Or.inr kw_430) kw_851 (by decide) hc (ok_X0_shares hL hc hx2) rfl rfl (Nat.le_of_ble_eq_true rfl) ⟨Nat.le_of_ble_eq_true rfl, Nat.le_of_ble_eq_true rfl⟩ ⟨Nat.le_of_ble_eq_true rfl, Nat.le_of_ble_eq_true rfl⟩ dX2_shares_11 ?_
  refine r_iconst (v := 1) dX2_shares_14 (by decide) ?_
  refine r_ixor dX2_shares_15 ?_
  obtain rfl := Option.some.inj hF
  exact r_ireturn (x := (x2.1 ^^^ 1)) rfl rfl dX2_shares_16 (Nat.le_of_ble_eq_true rfl) (Nat.le_of_ble_eq_true rfl)
def F_X9_shares (T : TM) (I : IM) (c : Nat) (p1 : Int32) : Option (Int32 × IM) := ((F_X7_began I 61).bind (fun x1 => ((F_X0_shares T x1 c p1).bind (fun x2 => ((F_X0_falls T x2.2 c (x2.2 c 1)).bind (fun x3 => (some ((x2.1 + x3.1), x3.2))))))))
set_option maxHeartbeats 4000000 in
theorem ok_X9_shares {E : GE} {T : TM} {I : IM} {J : JM} {P : PM} {c : Nat} {p1 : Int32} {x : Int32 × IM} (hL : LOK T P) (hc : isF T c = true) (hk : T.2.1 c = 9) (hF : F_X9_shares T I c p1 = some x) : Ctr E mX9_shares 2 0 0 [.ref c, .int p1, .ref 82] T I J P (some (.int x.1)) T x.2 J P := by
  unfold F_X9_shares at hF
  refine ctr_intro rfl (by decide +kernel) (Nat.le_of_ble_eq_true rfl) ?_
  refine r_sub (ls' := [(2, .ref 82), (1, .int p1), (0, .ref c)]) [2, 1, 0] rfl ?_
  refine r_aload_n dX9_shares_0 rfl rfl ?_
  refine r_bipush (v := 61) dX9_shares_1 (by decide) ?_
  obtain ⟨x1, hx1, hF⟩ := bnd hF
  refine c_virt_v (As := [.int 61]) mi_X7_began kw_815 kw_816 kw_866 rfl (by decide) (ln_82 hL) (ok_X7_began hL  hx1) rfl rfl (Nat.le_of_ble_eq_true rfl) ⟨Nat.le_of_ble_eq_true rfl, Nat.le_of_ble_eq_true rfl⟩ ⟨Nat.le_of_ble_eq_true rfl, Nat.le_of_ble_eq_true rfl⟩ dX9_shares_3 ?_
  refine r_aload_n dX9_shares_6 rfl rfl ?_
  refine r_iload_n dX9_shares_7 rfl rfl ?_
  refine r_aload_n dX9_shares_8 rfl rfl ?_
  obtain ⟨x2, hx2, hF⟩ := bnd hF
  refine c_super_i (As := [.int p1, .ref 82]) mi_X0_shares rfl kw_867 kw_868 kw_474 (Or.inr kw_452) kw_851 (by decide) hc (ok_X0_shares hL hc hx2) rfl rfl (Nat.le_of_ble_eq_true rfl) ⟨Nat.le_of_ble_eq_true rfl, Nat.le_of_ble_eq_true rfl⟩ ⟨Nat.le_of_ble_eq_true rfl, Nat.le_of_ble_eq_true rfl⟩ dX9_shares_9 ?_
  refine r_aload_n dX9_shares_12 rfl rfl ?_
  refine r_aload_n dX9_shares_13 rfl rfl ?_
  refine r_getF lf_X9_20 hc dX9_shares_14 ?_
  refine r_aload_n dX9_shares_17 rfl rfl ?_
  obtain ⟨x3, hx3, hF⟩ := bnd hF
  refine c_virtU_i (As := [.int (x2.2 c 1), .ref 82]) mi_X0_falls kw_869 kw_870 kw_808 kw_871 kw_808 kw_829 ⟨by decide, by decide, by decide +kernel⟩ rfl (by decide) (isF_is hc hk) (ok_X0_falls hL hc hx3) rfl rfl (Nat.le_of_ble_eq_true rfl) ⟨Nat.le_of_ble_eq_true rfl, Nat.le_of_ble_eq_true rfl⟩ ⟨Nat.le_of_ble_eq_true rfl, Nat.le_of_ble_eq_true rfl⟩ dX9_shares_18 ?_
  refine r_iadd dX9_shares_21 ?_
  obtain rfl := Option.some.inj hF
  exact r_ireturn (x := (x2.1 + x3.1)) rfl rfl dX9_shares_22 (Nat.le_of_ble_eq_true rfl) (Nat.le_of_ble_eq_true rfl)
def F_V_turns (T : TM) (I : IM) (c : Nat) (p1 : Int32) : Option (Int32 × IM) := (if T.2.1 c = 0 then F_X0_turns T I c p1 else (if T.2.1 c = 2 then F_X4_turns T I c p1 else (if T.2.1 c = 4 then F_X4_turns T I c p1 else (if T.2.1 c = 5 then F_X0_turns T I c p1 else (if T.2.1 c = 8 then F_X8_turns T I c p1 else (if T.2.1 c = 9 then F_X8_turns T I c p1 else none))))))
set_option maxHeartbeats 4000000 in
theorem vs_X0_46 {E : GE} {M : MD} {R : Room} {Z : State → Array Value → List Frame → State → Prop} {kc ks : Nat} {T : TM} {I : IM} {J : JM} {P : PM} {pc : Nat} {ls : List (Nat × Value)} {st stk : List Value} {c : Nat} {p1 : Int32} {x : Int32 × IM} (hL : LOK T P) (hc : isF T c = true) (hx : F_V_turns T I c p1 = some x) (hown : M.1.cls = RX0) (hstk : stk = [.int p1, .ref 82].reverse ++ .ref c :: st) (hcat : (st.map fun v => v.category).sum ≤ 8) (hR : 4 + 1 ≤ R.frames ∧ 36 + 37 * 4 ≤ R.locals) (hf : kc ≤ R.cells ∧ ks ≤ R.slots) (hd : decode M.2.1 pc = .ok (.invokevirtual 46, 3)) (kk : WW E M R Z kc ks T x.2 J P (pc + 3) ls (.int x.1 :: st)) : WW E M R Z kc ks T I J P pc ls stk := by
  obtain ⟨ci, hci, hI⟩ := isF_of hc
  unfold F_V_turns at hx
  have hk := hI.2.2
  simp only [fks, List.mem_cons, List.not_mem_nil, or_false] at hci
  rcases hci with rfl | rfl | rfl | rfl | rfl | rfl
  · have hx := tw (hx) hk
    exact c_virtU_i (ci := 0) (x0 := yX0_turns) mi_X0_turns (by rw [hown]; exact kw_894) kw_834 kw_832 kw_833 kw_832 kw_848 ⟨by decide, by decide, by decide +kernel⟩ rfl (by decide) hI (ok_X0_turns hL hc hx) rfl hstk hcat ⟨Nat.le_trans (Nat.le_of_ble_eq_true rfl : 3 + 1 ≤ 4 + 1) hR.1, Nat.le_trans (Nat.le_of_ble_eq_true rfl : 8 + (mX0_turns.2.2.1 + 11) + 37 * 3 ≤ 36 + 37 * 4) hR.2⟩ hf hd kk
  · have hx := tw (fw (hx) (by rw [hk]; decide)) hk
    exact c_virtU_i (ci := 2) (x0 := yX0_turns) mi_X4_turns (by rw [hown]; exact kw_894) kw_834 kw_832 kw_835 kw_836 kw_848 ⟨by decide, by decide, by decide +kernel⟩ rfl (by decide) hI (ok_X4_turns hL hc hx) rfl hstk hcat ⟨Nat.le_trans (Nat.le_of_ble_eq_true rfl : 4 + 1 ≤ 4 + 1) hR.1, Nat.le_trans (Nat.le_of_ble_eq_true rfl : 8 + (mX4_turns.2.2.1 + 11) + 37 * 4 ≤ 36 + 37 * 4) hR.2⟩ hf hd kk
  · have hx := tw (fw (fw (hx) (by rw [hk]; decide)) (by rw [hk]; decide)) hk
    exact c_virtU_i (ci := 4) (x0 := yX0_turns) mi_X4_turns (by rw [hown]; exact kw_894) kw_834 kw_832 kw_840 kw_836 kw_848 ⟨by decide, by decide, by decide +kernel⟩ rfl (by decide) hI (ok_X4_turns hL hc hx) rfl hstk hcat ⟨Nat.le_trans (Nat.le_of_ble_eq_true rfl : 4 + 1 ≤ 4 + 1) hR.1, Nat.le_trans (Nat.le_of_ble_eq_true rfl : 8 + (mX4_turns.2.2.1 + 11) + 37 * 4 ≤ 36 + 37 * 4) hR.2⟩ hf hd kk
  · have hx := tw (fw (fw (fw (hx) (by rw [hk]; decide)) (by rw [hk]; decide)) (by rw [hk]; decide)) hk
    exact c_virtU_i (ci := 5) (x0 := yX0_turns) mi_X0_turns (by rw [hown]; exact kw_894) kw_834 kw_832 kw_841 kw_832 kw_848 ⟨by decide, by decide, by decide +kernel⟩ rfl (by decide) hI (ok_X0_turns hL hc hx) rfl hstk hcat ⟨Nat.le_trans (Nat.le_of_ble_eq_true rfl : 3 + 1 ≤ 4 + 1) hR.1, Nat.le_trans (Nat.le_of_ble_eq_true rfl : 8 + (mX0_turns.2.2.1 + 11) + 37 * 3 ≤ 36 + 37 * 4) hR.2⟩ hf hd kk
  · have hx := tw (fw (fw (fw (fw (hx) (by rw [hk]; decide)) (by rw [hk]; decide)) (by rw [hk]; decide)) (by rw [hk]; decide)) hk
    exact c_virtU_i (ci := 8) (x0 := yX0_turns) mi_X8_turns (by rw [hown]; exact kw_894) kw_834 kw_832 kw_842 kw_843 kw_848 ⟨by decide, by decide, by decide +kernel⟩ rfl (by decide) hI (ok_X8_turns hL hc hx) rfl hstk hcat ⟨Nat.le_trans (Nat.le_of_ble_eq_true rfl : 4 + 1 ≤ 4 + 1) hR.1, Nat.le_trans (Nat.le_of_ble_eq_true rfl : 8 + (mX8_turns.2.2.1 + 11) + 37 * 4 ≤ 36 + 37 * 4) hR.2⟩ hf hd kk
  · have hx := tw (fw (fw (fw (fw (fw (hx) (by rw [hk]; decide)) (by rw [hk]; decide)) (by rw [hk]; decide)) (by rw [hk]; decide)) (by rw [hk]; decide)) hk
    exact c_virtU_i (ci := 9) (x0 := yX0_turns) mi_X8_turns (by rw [hown]; exact kw_894) kw_834 kw_832 kw_847 kw_843 kw_848 ⟨by decide, by decide, by decide +kernel⟩ rfl (by decide) hI (ok_X8_turns hL hc hx) rfl hstk hcat ⟨Nat.le_trans (Nat.le_of_ble_eq_true rfl : 4 + 1 ≤ 4 + 1) hR.1, Nat.le_trans (Nat.le_of_ble_eq_true rfl : 8 + (mX8_turns.2.2.1 + 11) + 37 * 4 ≤ 36 + 37 * 4) hR.2⟩ hf hd kk

def F_X0_tells (T : TM) (I : IM) (c : Nat) (p1 : Int32) : Option (Int32 × IM) := ((F_X7_began I 13).bind (fun x1 => ((F_V_turns T x1 c p1).bind (fun x2 => (some ((x2.1 ^^^ (x2.2 c 1)), x2.2))))))
set_option maxHeartbeats 4000000 in
theorem ok_X0_tells {E : GE} {T : TM} {I : IM} {J : JM} {P : PM} {c : Nat} {p1 : Int32} {x : Int32 × IM} (hL : LOK T P) (hc : isF T c = true) (hF : F_X0_tells T I c p1 = some x) : Ctr E mX0_tells 5 0 0 [.ref c, .int p1, .ref 82] T I J P (some (.int x.1)) T x.2 J P := by
  unfold F_X0_tells at hF
  refine ctr_intro rfl (by decide +kernel) (Nat.le_of_ble_eq_true rfl) ?_
  refine r_sub (ls' := [(2, .ref 82), (1, .int p1), (0, .ref c)]) [2, 1, 0] rfl ?_
  refine r_aload_n dX0_tells_0 rfl rfl ?_
  refine r_bipush (v := 13) dX0_tells_1 (by decide) ?_
  obtain ⟨x1, hx1, hF⟩ := bnd hF
  refine c_virt_v (As := [.int 13]) mi_X7_began kw_815 kw_816 kw_830 rfl (by decide) (ln_82 hL) (ok_X7_began hL  hx1) rfl rfl (Nat.le_of_ble_eq_true rfl) ⟨Nat.le_of_ble_eq_true rfl, Nat.le_of_ble_eq_true rfl⟩ ⟨Nat.le_of_ble_eq_true rfl, Nat.le_of_ble_eq_true rfl⟩ dX0_tells_3 ?_
  refine r_aload_n dX0_tells_6 rfl rfl ?_
  refine r_iload_n dX0_tells_7 rfl rfl ?_
  refine r_aload_n dX0_tells_8 rfl rfl ?_
  obtain ⟨x2, hx2, hF⟩ := bnd hF
  refine vs_X0_46 hL hc hx2 rfl rfl (Nat.le_of_ble_eq_true rfl) ⟨Nat.le_of_ble_eq_true rfl, Nat.le_of_ble_eq_true rfl⟩ ⟨Nat.le_of_ble_eq_true rfl, Nat.le_of_ble_eq_true rfl⟩ dX0_tells_9 ?_
  refine r_aload_n dX0_tells_12 rfl rfl ?_
  refine r_getF lf_X0_15 hc dX0_tells_13 ?_
  refine r_ixor dX0_tells_16 ?_
  obtain rfl := Option.some.inj hF
  exact r_ireturn (x := (x2.1 ^^^ (x2.2 c 1))) rfl rfl dX0_tells_17 (Nat.le_of_ble_eq_true rfl) (Nat.le_of_ble_eq_true rfl)
def F_X5_tells (T : TM) (I : IM) (c : Nat) (p1 : Int32) : Option (Int32 × IM) := ((F_X7_began I 31).bind (fun x1 => ((F_X0_tells T x1 c p1).bind (fun x2 => ((F_X0_shares T x2.2 c (x2.2 c 0)).bind (fun x3 => (some ((x2.1 + x3.1), x3.2))))))))
set_option maxHeartbeats 4000000 in
theorem ok_X5_tells {E : GE} {T : TM} {I : IM} {J : JM} {P : PM} {c : Nat} {p1 : Int32} {x : Int32 × IM} (hL : LOK T P) (hc : isF T c = true) (hk : T.2.1 c = 5) (hF : F_X5_tells T I c p1 = some x) : Ctr E mX5_tells 6 0 0 [.ref c, .int p1, .ref 82] T I J P (some (.int x.1)) T x.2 J P := by
  unfold F_X5_tells at hF
  refine ctr_intro rfl (by decide +kernel) (Nat.le_of_ble_eq_true rfl) ?_
  refine r_sub (ls' := [(2, .ref 82), (1, .int p1), (0, .ref c)]) [2, 1, 0] rfl ?_
  refine r_aload_n dX5_tells_0 rfl rfl ?_
  refine r_bipush (v := 31) dX5_tells_1 (by decide) ?_
  obtain ⟨x1, hx1, hF⟩ := bnd hF
  refine c_virt_v (As := [.int 31]) mi_X7_began kw_815 kw_816 kw_825 rfl (by decide) (ln_82 hL) (ok_X7_began hL  hx1) rfl rfl (Nat.le_of_ble_eq_true rfl) ⟨Nat.le_of_ble_eq_true rfl, Nat.le_of_ble_eq_true rfl⟩ ⟨Nat.le_of_ble_eq_true rfl, Nat.le_of_ble_eq_true rfl⟩ dX5_tells_3 ?_
  refine r_aload_n dX5_tells_6 rfl rfl ?_
  refine r_iload_n dX5_tells_7 rfl rfl ?_
  refine r_aload_n dX5_tells_8 rfl rfl ?_
  obtain ⟨x2, hx2, hF⟩ := bnd hF
  refine c_super_i (As := [.int p1, .ref 82]) mi_X0_tells rfl kw_882 kw_876 kw_441 (Or.inl rfl) kw_874 (by decide) hc (ok_X0_tells hL hc hx2) rfl rfl (Nat.le_of_ble_eq_true rfl) ⟨Nat.le_of_ble_eq_true rfl, Nat.le_of_ble_eq_true rfl⟩ ⟨Nat.le_of_ble_eq_true rfl, Nat.le_of_ble_eq_true rfl⟩ dX5_tells_9 ?_
  refine r_aload_n dX5_tells_12 rfl rfl ?_
  refine r_aload_n dX5_tells_13 rfl rfl ?_
  refine r_getF lf_X5_30 hc dX5_tells_14 ?_
  refine r_aload_n dX5_tells_17 rfl rfl ?_
  obtain ⟨x3, hx3, hF⟩ := bnd hF
  refine c_virtU_i (As := [.int (x2.2 c 0), .ref 82]) mi_X0_shares kw_883 kw_884 kw_851 kw_885 kw_851 kw_872 ⟨by decide, by decide, by decide +kernel⟩ rfl (by decide) (isF_is hc hk) (ok_X0_shares hL hc hx3) rfl rfl (Nat.le_of_ble_eq_true rfl) ⟨Nat.le_of_ble_eq_true rfl, Nat.le_of_ble_eq_true rfl⟩ ⟨Nat.le_of_ble_eq_true rfl, Nat.le_of_ble_eq_true rfl⟩ dX5_tells_18 ?_
  refine r_iadd dX5_tells_21 ?_
  obtain rfl := Option.some.inj hF
  exact r_ireturn (x := (x2.1 + x3.1)) rfl rfl dX5_tells_22 (Nat.le_of_ble_eq_true rfl) (Nat.le_of_ble_eq_true rfl)
def F_X9_tells (T : TM) (I : IM) (c : Nat) (p1 : Int32) : Option (Int32 × IM) := ((F_X7_began I 60).bind (fun x1 => ((F_X0_tells T x1 c p1).bind (fun x2 => (some ((x2.1 * 2), x2.2))))))
set_option maxHeartbeats 4000000 in
theorem ok_X9_tells {E : GE} {T : TM} {I : IM} {J : JM} {P : PM} {c : Nat} {p1 : Int32} {x : Int32 × IM} (hL : LOK T P) (hc : isF T c = true) (hk : T.2.1 c = 9) (hF : F_X9_tells T I c p1 = some x) : Ctr E mX9_tells 6 0 0 [.ref c, .int p1, .ref 82] T I J P (some (.int x.1)) T x.2 J P := by
  unfold F_X9_tells at hF
  refine ctr_intro rfl (by decide +kernel) (Nat.le_of_ble_eq_true rfl) ?_
  refine r_sub (ls' := [(2, .ref 82), (1, .int p1), (0, .ref c)]) [2, 1, 0] rfl ?_
  refine r_aload_n dX9_tells_0 rfl rfl ?_
  refine r_bipush (v := 60) dX9_tells_1 (by decide) ?_
  obtain ⟨x1, hx1, hF⟩ := bnd hF
  refine c_virt_v (As := [.int 60]) mi_X7_began kw_815 kw_816 kw_866 rfl (by decide) (ln_82 hL) (ok_X7_began hL  hx1) rfl rfl (Nat.le_of_ble_eq_true rfl) ⟨Nat.le_of_ble_eq_true rfl, Nat.le_of_ble_eq_true rfl⟩ ⟨Nat.le_of_ble_eq_true rfl, Nat.le_of_ble_eq_true rfl⟩ dX9_tells_3 ?_
  refine r_aload_n dX9_tells_6 rfl rfl ?_
  refine r_iload_n dX9_tells_7 rfl rfl ?_
  refine r_aload_n dX9_tells_8 rfl rfl ?_
  obtain ⟨x2, hx2, hF⟩ := bnd hF
  refine c_super_i (As := [.int p1, .ref 82]) mi_X0_tells rfl kw_890 kw_891 kw_474 (Or.inr kw_452) kw_874 (by decide) hc (ok_X0_tells hL hc hx2) rfl rfl (Nat.le_of_ble_eq_true rfl) ⟨Nat.le_of_ble_eq_true rfl, Nat.le_of_ble_eq_true rfl⟩ ⟨Nat.le_of_ble_eq_true rfl, Nat.le_of_ble_eq_true rfl⟩ dX9_tells_9 ?_
  refine r_iconst (v := 2) dX9_tells_12 (by decide) ?_
  refine r_imul dX9_tells_13 ?_
  obtain rfl := Option.some.inj hF
  exact r_ireturn (x := (x2.1 * 2)) rfl rfl dX9_tells_14 (Nat.le_of_ble_eq_true rfl) (Nat.le_of_ble_eq_true rfl)
set_option maxHeartbeats 4000000 in
theorem vs_X11_292 {E : GE} {M : MD} {R : Room} {Z : State → Array Value → List Frame → State → Prop} {kc ks : Nat} {T : TM} {I : IM} {J : JM} {P : PM} {pc : Nat} {ls : List (Nat × Value)} {st stk : List Value} {c : Nat} {p1 : Int32} {x : Int32 × IM} (hL : LOK T P) (hc : isF T c = true) (hx : F_V_falls T I c p1 = some x) (hown : M.1.cls = RX11) (hstk : stk = [.int p1, .ref 82].reverse ++ .ref c :: st) (hcat : (st.map fun v => v.category).sum ≤ 8) (hR : 2 + 1 ≤ R.frames ∧ 36 + 37 * 2 ≤ R.locals) (hf : kc ≤ R.cells ∧ ks ≤ R.slots) (hd : decode M.2.1 pc = .ok (.invokevirtual 292, 3)) (kk : WW E M R Z kc ks T x.2 J P (pc + 3) ls (.int x.1 :: st)) : WW E M R Z kc ks T I J P pc ls stk := by
  obtain ⟨ci, hci, hI⟩ := isF_of hc
  unfold F_V_falls at hx
  have hk := hI.2.2
  simp only [fks, List.mem_cons, List.not_mem_nil, or_false] at hci
  rcases hci with rfl | rfl | rfl | rfl | rfl | rfl
  · have hx := tw (hx) hk
    exact c_virtU_i (ci := 0) (x0 := yX0_falls) mi_X0_falls (by rw [hown]; exact kw_807) kw_810 kw_808 kw_809 kw_808 kw_829 ⟨by decide, by decide, by decide +kernel⟩ rfl (by decide) hI (ok_X0_falls hL hc hx) rfl hstk hcat ⟨Nat.le_trans (Nat.le_of_ble_eq_true rfl : 1 + 1 ≤ 2 + 1) hR.1, Nat.le_trans (Nat.le_of_ble_eq_true rfl : 8 + (mX0_falls.2.2.1 + 11) + 37 * 1 ≤ 36 + 37 * 2) hR.2⟩ hf hd kk
  · have hx := tw (fw (hx) (by rw [hk]; decide)) hk
    exact c_virtU_i (ci := 2) (x0 := yX0_falls) mi_X2_falls (by rw [hown]; exact kw_807) kw_810 kw_808 kw_811 kw_812 kw_829 ⟨by decide, by decide, by decide +kernel⟩ rfl (by decide) hI (ok_X2_falls hL hc hx) rfl hstk hcat ⟨Nat.le_trans (Nat.le_of_ble_eq_true rfl : 2 + 1 ≤ 2 + 1) hR.1, Nat.le_trans (Nat.le_of_ble_eq_true rfl : 8 + (mX2_falls.2.2.1 + 11) + 37 * 2 ≤ 36 + 37 * 2) hR.2⟩ hf hd kk
  · have hx := tw (fw (fw (hx) (by rw [hk]; decide)) (by rw [hk]; decide)) hk
    exact c_virtU_i (ci := 4) (x0 := yX0_falls) mi_X0_falls (by rw [hown]; exact kw_807) kw_810 kw_808 kw_821 kw_808 kw_829 ⟨by decide, by decide, by decide +kernel⟩ rfl (by decide) hI (ok_X0_falls hL hc hx) rfl hstk hcat ⟨Nat.le_trans (Nat.le_of_ble_eq_true rfl : 1 + 1 ≤ 2 + 1) hR.1, Nat.le_trans (Nat.le_of_ble_eq_true rfl : 8 + (mX0_falls.2.2.1 + 11) + 37 * 1 ≤ 36 + 37 * 2) hR.2⟩ hf hd kk
  · have hx := tw (fw (fw (fw (hx) (by rw [hk]; decide)) (by rw [hk]; decide)) (by rw [hk]; decide)) hk
    exact c_virtU_i (ci := 5) (x0 := yX0_falls) mi_X5_falls (by rw [hown]; exact kw_807) kw_810 kw_808 kw_822 kw_823 kw_829 ⟨by decide, by decide, by decide +kernel⟩ rfl (by decide) hI (ok_X5_falls hL hc hk hx) rfl hstk hcat ⟨Nat.le_trans (Nat.le_of_ble_eq_true rfl : 2 + 1 ≤ 2 + 1) hR.1, Nat.le_trans (Nat.le_of_ble_eq_true rfl : 8 + (mX5_falls.2.2.1 + 11) + 37 * 2 ≤ 36 + 37 * 2) hR.2⟩ hf hd kk
  · have hx := tw (fw (fw (fw (fw (hx) (by rw [hk]; decide)) (by rw [hk]; decide)) (by rw [hk]; decide)) (by rw [hk]; decide)) hk
    exact c_virtU_i (ci := 8) (x0 := yX0_falls) mi_X0_falls (by rw [hown]; exact kw_807) kw_810 kw_808 kw_827 kw_808 kw_829 ⟨by decide, by decide, by decide +kernel⟩ rfl (by decide) hI (ok_X0_falls hL hc hx) rfl hstk hcat ⟨Nat.le_trans (Nat.le_of_ble_eq_true rfl : 1 + 1 ≤ 2 + 1) hR.1, Nat.le_trans (Nat.le_of_ble_eq_true rfl : 8 + (mX0_falls.2.2.1 + 11) + 37 * 1 ≤ 36 + 37 * 2) hR.2⟩ hf hd kk
  · have hx := tw (fw (fw (fw (fw (fw (hx) (by rw [hk]; decide)) (by rw [hk]; decide)) (by rw [hk]; decide)) (by rw [hk]; decide)) (by rw [hk]; decide)) hk
    exact c_virtU_i (ci := 9) (x0 := yX0_falls) mi_X0_falls (by rw [hown]; exact kw_807) kw_810 kw_808 kw_828 kw_808 kw_829 ⟨by decide, by decide, by decide +kernel⟩ rfl (by decide) hI (ok_X0_falls hL hc hx) rfl hstk hcat ⟨Nat.le_trans (Nat.le_of_ble_eq_true rfl : 1 + 1 ≤ 2 + 1) hR.1, Nat.le_trans (Nat.le_of_ble_eq_true rfl : 8 + (mX0_falls.2.2.1 + 11) + 37 * 1 ≤ 36 + 37 * 2) hR.2⟩ hf hd kk

set_option maxHeartbeats 4000000 in
theorem vs_X11_296 {E : GE} {M : MD} {R : Room} {Z : State → Array Value → List Frame → State → Prop} {kc ks : Nat} {T : TM} {I : IM} {J : JM} {P : PM} {pc : Nat} {ls : List (Nat × Value)} {st stk : List Value} {c : Nat} {p1 : Int32} {x : Int32 × IM} (hL : LOK T P) (hc : isF T c = true) (hx : F_V_turns T I c p1 = some x) (hown : M.1.cls = RX11) (hstk : stk = [.int p1, .ref 82].reverse ++ .ref c :: st) (hcat : (st.map fun v => v.category).sum ≤ 8) (hR : 4 + 1 ≤ R.frames ∧ 36 + 37 * 4 ≤ R.locals) (hf : kc ≤ R.cells ∧ ks ≤ R.slots) (hd : decode M.2.1 pc = .ok (.invokevirtual 296, 3)) (kk : WW E M R Z kc ks T x.2 J P (pc + 3) ls (.int x.1 :: st)) : WW E M R Z kc ks T I J P pc ls stk := by
  obtain ⟨ci, hci, hI⟩ := isF_of hc
  unfold F_V_turns at hx
  have hk := hI.2.2
  simp only [fks, List.mem_cons, List.not_mem_nil, or_false] at hci
  rcases hci with rfl | rfl | rfl | rfl | rfl | rfl
  · have hx := tw (hx) hk
    exact c_virtU_i (ci := 0) (x0 := yX0_turns) mi_X0_turns (by rw [hown]; exact kw_831) kw_834 kw_832 kw_833 kw_832 kw_848 ⟨by decide, by decide, by decide +kernel⟩ rfl (by decide) hI (ok_X0_turns hL hc hx) rfl hstk hcat ⟨Nat.le_trans (Nat.le_of_ble_eq_true rfl : 3 + 1 ≤ 4 + 1) hR.1, Nat.le_trans (Nat.le_of_ble_eq_true rfl : 8 + (mX0_turns.2.2.1 + 11) + 37 * 3 ≤ 36 + 37 * 4) hR.2⟩ hf hd kk
  · have hx := tw (fw (hx) (by rw [hk]; decide)) hk
    exact c_virtU_i (ci := 2) (x0 := yX0_turns) mi_X4_turns (by rw [hown]; exact kw_831) kw_834 kw_832 kw_835 kw_836 kw_848 ⟨by decide, by decide, by decide +kernel⟩ rfl (by decide) hI (ok_X4_turns hL hc hx) rfl hstk hcat ⟨Nat.le_trans (Nat.le_of_ble_eq_true rfl : 4 + 1 ≤ 4 + 1) hR.1, Nat.le_trans (Nat.le_of_ble_eq_true rfl : 8 + (mX4_turns.2.2.1 + 11) + 37 * 4 ≤ 36 + 37 * 4) hR.2⟩ hf hd kk
  · have hx := tw (fw (fw (hx) (by rw [hk]; decide)) (by rw [hk]; decide)) hk
    exact c_virtU_i (ci := 4) (x0 := yX0_turns) mi_X4_turns (by rw [hown]; exact kw_831) kw_834 kw_832 kw_840 kw_836 kw_848 ⟨by decide, by decide, by decide +kernel⟩ rfl (by decide) hI (ok_X4_turns hL hc hx) rfl hstk hcat ⟨Nat.le_trans (Nat.le_of_ble_eq_true rfl : 4 + 1 ≤ 4 + 1) hR.1, Nat.le_trans (Nat.le_of_ble_eq_true rfl : 8 + (mX4_turns.2.2.1 + 11) + 37 * 4 ≤ 36 + 37 * 4) hR.2⟩ hf hd kk
  · have hx := tw (fw (fw (fw (hx) (by rw [hk]; decide)) (by rw [hk]; decide)) (by rw [hk]; decide)) hk
    exact c_virtU_i (ci := 5) (x0 := yX0_turns) mi_X0_turns (by rw [hown]; exact kw_831) kw_834 kw_832 kw_841 kw_832 kw_848 ⟨by decide, by decide, by decide +kernel⟩ rfl (by decide) hI (ok_X0_turns hL hc hx) rfl hstk hcat ⟨Nat.le_trans (Nat.le_of_ble_eq_true rfl : 3 + 1 ≤ 4 + 1) hR.1, Nat.le_trans (Nat.le_of_ble_eq_true rfl : 8 + (mX0_turns.2.2.1 + 11) + 37 * 3 ≤ 36 + 37 * 4) hR.2⟩ hf hd kk
  · have hx := tw (fw (fw (fw (fw (hx) (by rw [hk]; decide)) (by rw [hk]; decide)) (by rw [hk]; decide)) (by rw [hk]; decide)) hk
    exact c_virtU_i (ci := 8) (x0 := yX0_turns) mi_X8_turns (by rw [hown]; exact kw_831) kw_834 kw_832 kw_842 kw_843 kw_848 ⟨by decide, by decide, by decide +kernel⟩ rfl (by decide) hI (ok_X8_turns hL hc hx) rfl hstk hcat ⟨Nat.le_trans (Nat.le_of_ble_eq_true rfl : 4 + 1 ≤ 4 + 1) hR.1, Nat.le_trans (Nat.le_of_ble_eq_true rfl : 8 + (mX8_turns.2.2.1 + 11) + 37 * 4 ≤ 36 + 37 * 4) hR.2⟩ hf hd kk
  · have hx := tw (fw (fw (fw (fw (fw (hx) (by rw [hk]; decide)) (by rw [hk]; decide)) (by rw [hk]; decide)) (by rw [hk]; decide)) (by rw [hk]; decide)) hk
    exact c_virtU_i (ci := 9) (x0 := yX0_turns) mi_X8_turns (by rw [hown]; exact kw_831) kw_834 kw_832 kw_847 kw_843 kw_848 ⟨by decide, by decide, by decide +kernel⟩ rfl (by decide) hI (ok_X8_turns hL hc hx) rfl hstk hcat ⟨Nat.le_trans (Nat.le_of_ble_eq_true rfl : 4 + 1 ≤ 4 + 1) hR.1, Nat.le_trans (Nat.le_of_ble_eq_true rfl : 8 + (mX8_turns.2.2.1 + 11) + 37 * 4 ≤ 36 + 37 * 4) hR.2⟩ hf hd kk

def F_V_shares (T : TM) (I : IM) (c : Nat) (p1 : Int32) : Option (Int32 × IM) := (if T.2.1 c = 0 then F_X0_shares T I c p1 else (if T.2.1 c = 2 then F_X2_shares T I c p1 else (if T.2.1 c = 4 then F_X0_shares T I c p1 else (if T.2.1 c = 5 then F_X0_shares T I c p1 else (if T.2.1 c = 8 then F_X0_shares T I c p1 else (if T.2.1 c = 9 then F_X9_shares T I c p1 else none))))))
set_option maxHeartbeats 4000000 in
theorem vs_X11_299 {E : GE} {M : MD} {R : Room} {Z : State → Array Value → List Frame → State → Prop} {kc ks : Nat} {T : TM} {I : IM} {J : JM} {P : PM} {pc : Nat} {ls : List (Nat × Value)} {st stk : List Value} {c : Nat} {p1 : Int32} {x : Int32 × IM} (hL : LOK T P) (hc : isF T c = true) (hx : F_V_shares T I c p1 = some x) (hown : M.1.cls = RX11) (hstk : stk = [.int p1, .ref 82].reverse ++ .ref c :: st) (hcat : (st.map fun v => v.category).sum ≤ 8) (hR : 2 + 1 ≤ R.frames ∧ 36 + 37 * 2 ≤ R.locals) (hf : kc ≤ R.cells ∧ ks ≤ R.slots) (hd : decode M.2.1 pc = .ok (.invokevirtual 299, 3)) (kk : WW E M R Z kc ks T x.2 J P (pc + 3) ls (.int x.1 :: st)) : WW E M R Z kc ks T I J P pc ls stk := by
  obtain ⟨ci, hci, hI⟩ := isF_of hc
  unfold F_V_shares at hx
  have hk := hI.2.2
  simp only [fks, List.mem_cons, List.not_mem_nil, or_false] at hci
  rcases hci with rfl | rfl | rfl | rfl | rfl | rfl
  · have hx := tw (hx) hk
    exact c_virtU_i (ci := 0) (x0 := yX0_shares) mi_X0_shares (by rw [hown]; exact kw_850) kw_853 kw_851 kw_852 kw_851 kw_872 ⟨by decide, by decide, by decide +kernel⟩ rfl (by decide) hI (ok_X0_shares hL hc hx) rfl hstk hcat ⟨Nat.le_trans (Nat.le_of_ble_eq_true rfl : 1 + 1 ≤ 2 + 1) hR.1, Nat.le_trans (Nat.le_of_ble_eq_true rfl : 8 + (mX0_shares.2.2.1 + 11) + 37 * 1 ≤ 36 + 37 * 2) hR.2⟩ hf hd kk
  · have hx := tw (fw (hx) (by rw [hk]; decide)) hk
    exact c_virtU_i (ci := 2) (x0 := yX0_shares) mi_X2_shares (by rw [hown]; exact kw_850) kw_853 kw_851 kw_854 kw_855 kw_872 ⟨by decide, by decide, by decide +kernel⟩ rfl (by decide) hI (ok_X2_shares hL hc hx) rfl hstk hcat ⟨Nat.le_trans (Nat.le_of_ble_eq_true rfl : 2 + 1 ≤ 2 + 1) hR.1, Nat.le_trans (Nat.le_of_ble_eq_true rfl : 8 + (mX2_shares.2.2.1 + 11) + 37 * 2 ≤ 36 + 37 * 2) hR.2⟩ hf hd kk
  · have hx := tw (fw (fw (hx) (by rw [hk]; decide)) (by rw [hk]; decide)) hk
    exact c_virtU_i (ci := 4) (x0 := yX0_shares) mi_X0_shares (by rw [hown]; exact kw_850) kw_853 kw_851 kw_860 kw_851 kw_872 ⟨by decide, by decide, by decide +kernel⟩ rfl (by decide) hI (ok_X0_shares hL hc hx) rfl hstk hcat ⟨Nat.le_trans (Nat.le_of_ble_eq_true rfl : 1 + 1 ≤ 2 + 1) hR.1, Nat.le_trans (Nat.le_of_ble_eq_true rfl : 8 + (mX0_shares.2.2.1 + 11) + 37 * 1 ≤ 36 + 37 * 2) hR.2⟩ hf hd kk
  · have hx := tw (fw (fw (fw (hx) (by rw [hk]; decide)) (by rw [hk]; decide)) (by rw [hk]; decide)) hk
    exact c_virtU_i (ci := 5) (x0 := yX0_shares) mi_X0_shares (by rw [hown]; exact kw_850) kw_853 kw_851 kw_861 kw_851 kw_872 ⟨by decide, by decide, by decide +kernel⟩ rfl (by decide) hI (ok_X0_shares hL hc hx) rfl hstk hcat ⟨Nat.le_trans (Nat.le_of_ble_eq_true rfl : 1 + 1 ≤ 2 + 1) hR.1, Nat.le_trans (Nat.le_of_ble_eq_true rfl : 8 + (mX0_shares.2.2.1 + 11) + 37 * 1 ≤ 36 + 37 * 2) hR.2⟩ hf hd kk
  · have hx := tw (fw (fw (fw (fw (hx) (by rw [hk]; decide)) (by rw [hk]; decide)) (by rw [hk]; decide)) (by rw [hk]; decide)) hk
    exact c_virtU_i (ci := 8) (x0 := yX0_shares) mi_X0_shares (by rw [hown]; exact kw_850) kw_853 kw_851 kw_862 kw_851 kw_872 ⟨by decide, by decide, by decide +kernel⟩ rfl (by decide) hI (ok_X0_shares hL hc hx) rfl hstk hcat ⟨Nat.le_trans (Nat.le_of_ble_eq_true rfl : 1 + 1 ≤ 2 + 1) hR.1, Nat.le_trans (Nat.le_of_ble_eq_true rfl : 8 + (mX0_shares.2.2.1 + 11) + 37 * 1 ≤ 36 + 37 * 2) hR.2⟩ hf hd kk
  · have hx := tw (fw (fw (fw (fw (fw (hx) (by rw [hk]; decide)) (by rw [hk]; decide)) (by rw [hk]; decide)) (by rw [hk]; decide)) (by rw [hk]; decide)) hk
    exact c_virtU_i (ci := 9) (x0 := yX0_shares) mi_X9_shares (by rw [hown]; exact kw_850) kw_853 kw_851 kw_863 kw_864 kw_872 ⟨by decide, by decide, by decide +kernel⟩ rfl (by decide) hI (ok_X9_shares hL hc hk hx) rfl hstk hcat ⟨Nat.le_trans (Nat.le_of_ble_eq_true rfl : 2 + 1 ≤ 2 + 1) hR.1, Nat.le_trans (Nat.le_of_ble_eq_true rfl : 8 + (mX9_shares.2.2.1 + 11) + 37 * 2 ≤ 36 + 37 * 2) hR.2⟩ hf hd kk

def F_V_tells (T : TM) (I : IM) (c : Nat) (p1 : Int32) : Option (Int32 × IM) := (if T.2.1 c = 0 then F_X0_tells T I c p1 else (if T.2.1 c = 2 then F_X0_tells T I c p1 else (if T.2.1 c = 4 then F_X0_tells T I c p1 else (if T.2.1 c = 5 then F_X5_tells T I c p1 else (if T.2.1 c = 8 then F_X0_tells T I c p1 else (if T.2.1 c = 9 then F_X9_tells T I c p1 else none))))))
set_option maxHeartbeats 4000000 in
theorem vs_X11_302 {E : GE} {M : MD} {R : Room} {Z : State → Array Value → List Frame → State → Prop} {kc ks : Nat} {T : TM} {I : IM} {J : JM} {P : PM} {pc : Nat} {ls : List (Nat × Value)} {st stk : List Value} {c : Nat} {p1 : Int32} {x : Int32 × IM} (hL : LOK T P) (hc : isF T c = true) (hx : F_V_tells T I c p1 = some x) (hown : M.1.cls = RX11) (hstk : stk = [.int p1, .ref 82].reverse ++ .ref c :: st) (hcat : (st.map fun v => v.category).sum ≤ 8) (hR : 6 + 1 ≤ R.frames ∧ 36 + 37 * 6 ≤ R.locals) (hf : kc ≤ R.cells ∧ ks ≤ R.slots) (hd : decode M.2.1 pc = .ok (.invokevirtual 302, 3)) (kk : WW E M R Z kc ks T x.2 J P (pc + 3) ls (.int x.1 :: st)) : WW E M R Z kc ks T I J P pc ls stk := by
  obtain ⟨ci, hci, hI⟩ := isF_of hc
  unfold F_V_tells at hx
  have hk := hI.2.2
  simp only [fks, List.mem_cons, List.not_mem_nil, or_false] at hci
  rcases hci with rfl | rfl | rfl | rfl | rfl | rfl
  · have hx := tw (hx) hk
    exact c_virtU_i (ci := 0) (x0 := yX0_tells) mi_X0_tells (by rw [hown]; exact kw_873) kw_876 kw_874 kw_875 kw_874 kw_893 ⟨by decide, by decide, by decide +kernel⟩ rfl (by decide) hI (ok_X0_tells hL hc hx) rfl hstk hcat ⟨Nat.le_trans (Nat.le_of_ble_eq_true rfl : 5 + 1 ≤ 6 + 1) hR.1, Nat.le_trans (Nat.le_of_ble_eq_true rfl : 8 + (mX0_tells.2.2.1 + 11) + 37 * 5 ≤ 36 + 37 * 6) hR.2⟩ hf hd kk
  · have hx := tw (fw (hx) (by rw [hk]; decide)) hk
    exact c_virtU_i (ci := 2) (x0 := yX0_tells) mi_X0_tells (by rw [hown]; exact kw_873) kw_876 kw_874 kw_877 kw_874 kw_893 ⟨by decide, by decide, by decide +kernel⟩ rfl (by decide) hI (ok_X0_tells hL hc hx) rfl hstk hcat ⟨Nat.le_trans (Nat.le_of_ble_eq_true rfl : 5 + 1 ≤ 6 + 1) hR.1, Nat.le_trans (Nat.le_of_ble_eq_true rfl : 8 + (mX0_tells.2.2.1 + 11) + 37 * 5 ≤ 36 + 37 * 6) hR.2⟩ hf hd kk
  · have hx := tw (fw (fw (hx) (by rw [hk]; decide)) (by rw [hk]; decide)) hk
    exact c_virtU_i (ci := 4) (x0 := yX0_tells) mi_X0_tells (by rw [hown]; exact kw_873) kw_876 kw_874 kw_878 kw_874 kw_893 ⟨by decide, by decide, by decide +kernel⟩ rfl (by decide) hI (ok_X0_tells hL hc hx) rfl hstk hcat ⟨Nat.le_trans (Nat.le_of_ble_eq_true rfl : 5 + 1 ≤ 6 + 1) hR.1, Nat.le_trans (Nat.le_of_ble_eq_true rfl : 8 + (mX0_tells.2.2.1 + 11) + 37 * 5 ≤ 36 + 37 * 6) hR.2⟩ hf hd kk
  · have hx := tw (fw (fw (fw (hx) (by rw [hk]; decide)) (by rw [hk]; decide)) (by rw [hk]; decide)) hk
    exact c_virtU_i (ci := 5) (x0 := yX0_tells) mi_X5_tells (by rw [hown]; exact kw_873) kw_876 kw_874 kw_879 kw_880 kw_893 ⟨by decide, by decide, by decide +kernel⟩ rfl (by decide) hI (ok_X5_tells hL hc hk hx) rfl hstk hcat ⟨Nat.le_trans (Nat.le_of_ble_eq_true rfl : 6 + 1 ≤ 6 + 1) hR.1, Nat.le_trans (Nat.le_of_ble_eq_true rfl : 8 + (mX5_tells.2.2.1 + 11) + 37 * 6 ≤ 36 + 37 * 6) hR.2⟩ hf hd kk
  · have hx := tw (fw (fw (fw (fw (hx) (by rw [hk]; decide)) (by rw [hk]; decide)) (by rw [hk]; decide)) (by rw [hk]; decide)) hk
    exact c_virtU_i (ci := 8) (x0 := yX0_tells) mi_X0_tells (by rw [hown]; exact kw_873) kw_876 kw_874 kw_886 kw_874 kw_893 ⟨by decide, by decide, by decide +kernel⟩ rfl (by decide) hI (ok_X0_tells hL hc hx) rfl hstk hcat ⟨Nat.le_trans (Nat.le_of_ble_eq_true rfl : 5 + 1 ≤ 6 + 1) hR.1, Nat.le_trans (Nat.le_of_ble_eq_true rfl : 8 + (mX0_tells.2.2.1 + 11) + 37 * 5 ≤ 36 + 37 * 6) hR.2⟩ hf hd kk
  · have hx := tw (fw (fw (fw (fw (fw (hx) (by rw [hk]; decide)) (by rw [hk]; decide)) (by rw [hk]; decide)) (by rw [hk]; decide)) (by rw [hk]; decide)) hk
    exact c_virtU_i (ci := 9) (x0 := yX0_tells) mi_X9_tells (by rw [hown]; exact kw_873) kw_876 kw_874 kw_887 kw_888 kw_893 ⟨by decide, by decide, by decide +kernel⟩ rfl (by decide) hI (ok_X9_tells hL hc hk hx) rfl hstk hcat ⟨Nat.le_trans (Nat.le_of_ble_eq_true rfl : 6 + 1 ≤ 6 + 1) hR.1, Nat.le_trans (Nat.le_of_ble_eq_true rfl : 8 + (mX9_tells.2.2.1 + 11) + 37 * 6 ≤ 36 + 37 * 6) hR.2⟩ hf hd kk

def F_X11_act (T : TM) (I : IM) (P : PM) (p1 : Int32) (p2 : Int32) (p3 : Int32) : Option (Int32 × IM) := ((F_X7_clear I).bind (fun x1 => ((F_X11_thingOn x1 P p1).bind (fun x2 => (osel x2 (some (0, x1)) (fun c3 => (if p2 < 0 then (some (0, x1)) else (if p2 ≤ 3 then (if p2 = 0 then (if isF T c3 = true then ((F_V_falls T x1 c3 p3).bind (fun x8 => (if (x8.2 82 2) = 0 then (some (x8.1, x8.2)) else (some ((-15), x8.2))))) else none) else (if p2 = 1 then (if isF T c3 = true then ((F_V_turns T x1 c3 p3).bind (fun x12 => (if (x12.2 82 2) = 0 then (some (x12.1, x12.2)) else (some ((-15), x12.2))))) else none) else (if p2 = 2 then (if isF T c3 = true then ((F_V_shares T x1 c3 p3).bind (fun x16 => (if (x16.2 82 2) = 0 then (some (x16.1, x16.2)) else (some ((-15), x16.2))))) else none) else (if isF T c3 = true then ((F_V_tells T x1 c3 p3).bind (fun x19 => (if (x19.2 82 2) = 0 then (some (x19.1, x19.2)) else (some ((-15), x19.2))))) else none)))) else (some (0, x1))))))))))
set_option maxHeartbeats 4000000 in
theorem ok_X11_act {E : GE} {T : TM} {I : IM} {J : JM} {P : PM} {p1 : Int32} {p2 : Int32} {p3 : Int32} {x : Int32 × IM} (hL : LOK T P) (hF : F_X11_act T I P p1 p2 p3 = some x) : Ctr E mX11_act 7 0 0 [.ref 64, .int p1, .int p2, .int p3] T I J P (some (.int x.1)) T x.2 J P := by
  unfold F_X11_act at hF
  refine ctr_intro rfl (by decide +kernel) (Nat.le_of_ble_eq_true rfl) ?_
  refine r_sub (ls' := [(3, .int p3), (2, .int p2), (1, .int p1), (0, .ref 64)]) [3, 2, 1, 0] rfl ?_
  refine r_aload_n dX11_act_0 rfl rfl ?_
  refine r_getP lk_X11_32 (ln_64 hL) (pp_64_5 hL) dX11_act_1 ?_
  obtain ⟨x1, hx1, hF⟩ := bnd hF
  refine c_virt_v (As := []) mi_X7_clear kw_804 kw_805 kw_803 rfl (by decide) (ln_82 hL) (ok_X7_clear hL  hx1) rfl rfl (Nat.le_of_ble_eq_true rfl) ⟨Nat.le_of_ble_eq_true rfl, Nat.le_of_ble_eq_true rfl⟩ ⟨Nat.le_of_ble_eq_true rfl, Nat.le_of_ble_eq_true rfl⟩ dX11_act_4 ?_
  refine r_aload_n dX11_act_7 rfl rfl ?_
  refine r_iload_n dX11_act_8 rfl rfl ?_
  obtain ⟨x2, hx2, hF⟩ := bnd hF
  refine c_virt_q (As := [.int p1]) mi_X11_thingOn kw_789 ks_23 kw_787 rfl (by decide) (ln_64 hL) (ok_X11_thingOn hL  hx2) rfl rfl (Nat.le_of_ble_eq_true rfl) ⟨Nat.le_of_ble_eq_true rfl, Nat.le_of_ble_eq_true rfl⟩ ⟨Nat.le_of_ble_eq_true rfl, Nat.le_of_ble_eq_true rfl⟩ dX11_act_9 ?_
  rcases q21 : x2 with _ | c3
  · have hF := (osel_n q21).symm.trans hF
    (try rw [q21])
    show WW _ _ _ _ _ _ _ _ _ _ _ _ (.null :: _)
    refine r_astoreN (ls' := [(4, .null), (3, .int p3), (2, .int p2), (1, .int p1), (0, .ref 64)]) dX11_act_12 (by decide) rfl ?_
    refine r_aloadN dX11_act_14 rfl ?_
    refine r_ifnullN (tgt := 28) dX11_act_16 (by decide) ?_
    refine r_iconst (v := 0) dX11_act_28 (by decide) ?_
    obtain rfl := Option.some.inj hF
    exact r_ireturn (x := 0) rfl rfl dX11_act_29 (Nat.le_of_ble_eq_true rfl) (Nat.le_of_ble_eq_true rfl)
  · have hF := (osel_s q21).symm.trans hF
    (try rw [q21])
    show WW _ _ _ _ _ _ _ _ _ _ _ _ (.ref c3 :: _)
    refine r_astore (ls' := [(4, .ref c3), (3, .int p3), (2, .int p2), (1, .int p1), (0, .ref 64)]) dX11_act_12 (by decide) rfl ?_
    refine r_aload dX11_act_14 rfl ?_
    refine r_ifnull dX11_act_16 ?_
    refine r_iload_n dX11_act_19 rfl rfl ?_
    refine r_if_lt (tgt := 28) dX11_act_20 (by decide) (fun h4 => ?_) (fun h4 => ?_)
    · have hF := tw hF h4
      refine r_iconst (v := 0) dX11_act_28 (by decide) ?_
      obtain rfl := Option.some.inj hF
      exact r_ireturn (x := 0) rfl rfl dX11_act_29 (Nat.le_of_ble_eq_true rfl) (Nat.le_of_ble_eq_true rfl)
    · have hF := fw hF h4
      refine r_iload_n dX11_act_23 rfl rfl ?_
      refine r_iconst (v := 3) dX11_act_24 (by decide) ?_
      refine r_icmp_le (tgt := 30) dX11_act_25 (by decide) (fun h5 => ?_) (fun h5 => ?_)
      · have hF := tw hF h5
        refine r_iload_n dX11_act_30 rfl rfl ?_
        by_cases h6 : p2 = 0
        · have hF := tw hF h6
          refine r_tableIn (off := 25) (tgt := 56) dX11_act_31 (by rw [h6]; decide) (by rw [h6]; decide) (by rw [h6]; decide) (by decide) ?_
          refine r_aload dX11_act_56 rfl ?_
          refine r_iload_n dX11_act_58 rfl rfl ?_
          refine r_aload_n dX11_act_59 rfl rfl ?_
          refine r_getP lk_X11_32 (ln_64 hL) (pp_64_5 hL) dX11_act_60 ?_
          obtain ⟨g7, hF⟩ := gd hF
          obtain ⟨x8, hx8, hF⟩ := bnd hF
          refine vs_X11_292 hL g7 hx8 rfl rfl (Nat.le_of_ble_eq_true rfl) ⟨Nat.le_of_ble_eq_true rfl, Nat.le_of_ble_eq_true rfl⟩ ⟨Nat.le_of_ble_eq_true rfl, Nat.le_of_ble_eq_true rfl⟩ dX11_act_63 ?_
          refine r_istore (ls' := [(5, .int x8.1), (4, .ref c3), (3, .int p3), (2, .int p2), (1, .int p1), (0, .ref 64)]) dX11_act_66 (by decide) rfl ?_
          refine r_goto (tgt := 113) dX11_act_68 (by decide) ?_
          refine r_aload_n dX11_act_113 rfl rfl ?_
          refine r_getP lk_X11_32 (ln_64 hL) (pp_64_5 hL) dX11_act_114 ?_
          refine r_getI lk_X11_305 (ln_82 hL) dX11_act_117 ?_
          refine r_if_eq (tgt := 128) dX11_act_120 (by decide) (fun h9 => ?_) (fun h9 => ?_)
          · have hF := tw hF h9
            refine r_iload dX11_act_128 rfl ?_
            obtain rfl := Option.some.inj hF
            exact r_ireturn (x := x8.1) rfl rfl dX11_act_130 (Nat.le_of_ble_eq_true rfl) (Nat.le_of_ble_eq_true rfl)
          · have hF := fw hF h9
            refine r_bipush (v := (-15)) dX11_act_123 (by decide) ?_
            refine r_goto (tgt := 130) dX11_act_125 (by decide) ?_
            obtain rfl := Option.some.inj hF
            exact r_ireturn (x := (-15)) rfl rfl dX11_act_130 (Nat.le_of_ble_eq_true rfl) (Nat.le_of_ble_eq_true rfl)
        · have hF := fw hF h6
          by_cases h10 : p2 = 1
          · have hF := tw hF h10
            refine r_tableIn (off := 40) (tgt := 71) dX11_act_31 (by rw [h10]; decide) (by rw [h10]; decide) (by rw [h10]; decide) (by decide) ?_
            refine r_aload dX11_act_71 rfl ?_
            refine r_iload_n dX11_act_73 rfl rfl ?_
            refine r_aload_n dX11_act_74 rfl rfl ?_
            refine r_getP lk_X11_32 (ln_64 hL) (pp_64_5 hL) dX11_act_75 ?_
            obtain ⟨g11, hF⟩ := gd hF
            obtain ⟨x12, hx12, hF⟩ := bnd hF
            refine vs_X11_296 hL g11 hx12 rfl rfl (Nat.le_of_ble_eq_true rfl) ⟨Nat.le_of_ble_eq_true rfl, Nat.le_of_ble_eq_true rfl⟩ ⟨Nat.le_of_ble_eq_true rfl, Nat.le_of_ble_eq_true rfl⟩ dX11_act_78 ?_
            refine r_istore (ls' := [(5, .int x12.1), (4, .ref c3), (3, .int p3), (2, .int p2), (1, .int p1), (0, .ref 64)]) dX11_act_81 (by decide) rfl ?_
            refine r_goto (tgt := 113) dX11_act_83 (by decide) ?_
            refine r_aload_n dX11_act_113 rfl rfl ?_
            refine r_getP lk_X11_32 (ln_64 hL) (pp_64_5 hL) dX11_act_114 ?_
            refine r_getI lk_X11_305 (ln_82 hL) dX11_act_117 ?_
            refine r_if_eq (tgt := 128) dX11_act_120 (by decide) (fun h13 => ?_) (fun h13 => ?_)
            · have hF := tw hF h13
              refine r_iload dX11_act_128 rfl ?_
              obtain rfl := Option.some.inj hF
              exact r_ireturn (x := x12.1) rfl rfl dX11_act_130 (Nat.le_of_ble_eq_true rfl) (Nat.le_of_ble_eq_true rfl)
            · have hF := fw hF h13
              refine r_bipush (v := (-15)) dX11_act_123 (by decide) ?_
              refine r_goto (tgt := 130) dX11_act_125 (by decide) ?_
              obtain rfl := Option.some.inj hF
              exact r_ireturn (x := (-15)) rfl rfl dX11_act_130 (Nat.le_of_ble_eq_true rfl) (Nat.le_of_ble_eq_true rfl)
          · have hF := fw hF h10
            by_cases h14 : p2 = 2
            · have hF := tw hF h14
              refine r_tableIn (off := 55) (tgt := 86) dX11_act_31 (by rw [h14]; decide) (by rw [h14]; decide) (by rw [h14]; decide) (by decide) ?_
              refine r_aload dX11_act_86 rfl ?_
              refine r_iload_n dX11_act_88 rfl rfl ?_
              refine r_aload_n dX11_act_89 rfl rfl ?_
              refine r_getP lk_X11_32 (ln_64 hL) (pp_64_5 hL) dX11_act_90 ?_
              obtain ⟨g15, hF⟩ := gd hF
              obtain ⟨x16, hx16, hF⟩ := bnd hF
              refine vs_X11_299 hL g15 hx16 rfl rfl (Nat.le_of_ble_eq_true rfl) ⟨Nat.le_of_ble_eq_true rfl, Nat.le_of_ble_eq_true rfl⟩ ⟨Nat.le_of_ble_eq_true rfl, Nat.le_of_ble_eq_true rfl⟩ dX11_act_93 ?_
              refine r_istore (ls' := [(5, .int x16.1), (4, .ref c3), (3, .int p3), (2, .int p2), (1, .int p1), (0, .ref 64)]) dX11_act_96 (by decide) rfl ?_
              refine r_goto (tgt := 113) dX11_act_98 (by decide) ?_
              refine r_aload_n dX11_act_113 rfl rfl ?_
              refine r_getP lk_X11_32 (ln_64 hL) (pp_64_5 hL) dX11_act_114 ?_
              refine r_getI lk_X11_305 (ln_82 hL) dX11_act_117 ?_
              refine r_if_eq (tgt := 128) dX11_act_120 (by decide) (fun h17 => ?_) (fun h17 => ?_)
              · have hF := tw hF h17
                refine r_iload dX11_act_128 rfl ?_
                obtain rfl := Option.some.inj hF
                exact r_ireturn (x := x16.1) rfl rfl dX11_act_130 (Nat.le_of_ble_eq_true rfl) (Nat.le_of_ble_eq_true rfl)
              · have hF := fw hF h17
                refine r_bipush (v := (-15)) dX11_act_123 (by decide) ?_
                refine r_goto (tgt := 130) dX11_act_125 (by decide) ?_
                obtain rfl := Option.some.inj hF
                exact r_ireturn (x := (-15)) rfl rfl dX11_act_130 (Nat.le_of_ble_eq_true rfl) (Nat.le_of_ble_eq_true rfl)
            · have hF := fw hF h14
              have eh6 := nei 0 (by decide) h6
              have eh10 := nei 1 (by decide) h10
              have eh14 := nei 2 (by decide) h14
              refine r_tableOut (tgt := 101) dX11_act_31 (by omega) (by decide) ?_
              refine r_aload dX11_act_101 rfl ?_
              refine r_iload_n dX11_act_103 rfl rfl ?_
              refine r_aload_n dX11_act_104 rfl rfl ?_
              refine r_getP lk_X11_32 (ln_64 hL) (pp_64_5 hL) dX11_act_105 ?_
              obtain ⟨g18, hF⟩ := gd hF
              obtain ⟨x19, hx19, hF⟩ := bnd hF
              refine vs_X11_302 hL g18 hx19 rfl rfl (Nat.le_of_ble_eq_true rfl) ⟨Nat.le_of_ble_eq_true rfl, Nat.le_of_ble_eq_true rfl⟩ ⟨Nat.le_of_ble_eq_true rfl, Nat.le_of_ble_eq_true rfl⟩ dX11_act_108 ?_
              refine r_istore (ls' := [(5, .int x19.1), (4, .ref c3), (3, .int p3), (2, .int p2), (1, .int p1), (0, .ref 64)]) dX11_act_111 (by decide) rfl ?_
              refine r_aload_n dX11_act_113 rfl rfl ?_
              refine r_getP lk_X11_32 (ln_64 hL) (pp_64_5 hL) dX11_act_114 ?_
              refine r_getI lk_X11_305 (ln_82 hL) dX11_act_117 ?_
              refine r_if_eq (tgt := 128) dX11_act_120 (by decide) (fun h20 => ?_) (fun h20 => ?_)
              · have hF := tw hF h20
                refine r_iload dX11_act_128 rfl ?_
                obtain rfl := Option.some.inj hF
                exact r_ireturn (x := x19.1) rfl rfl dX11_act_130 (Nat.le_of_ble_eq_true rfl) (Nat.le_of_ble_eq_true rfl)
              · have hF := fw hF h20
                refine r_bipush (v := (-15)) dX11_act_123 (by decide) ?_
                refine r_goto (tgt := 130) dX11_act_125 (by decide) ?_
                obtain rfl := Option.some.inj hF
                exact r_ireturn (x := (-15)) rfl rfl dX11_act_130 (Nat.le_of_ble_eq_true rfl) (Nat.le_of_ble_eq_true rfl)
      · have hF := fw hF h5
        refine r_iconst (v := 0) dX11_act_28 (by decide) ?_
        obtain rfl := Option.some.inj hF
        exact r_ireturn (x := 0) rfl rfl dX11_act_29 (Nat.le_of_ble_eq_true rfl) (Nat.le_of_ble_eq_true rfl)
def F_X11_trace (I : IM) (p1 : Int32) : Option (Int32) := (if p1 < 0 then (some (-3)) else (if p1 < (I 82 1) then (if inb p1 30 = true then (some (I 83 p1.toNatClampNeg)) else none) else (some (-3))))
set_option maxHeartbeats 4000000 in
theorem ok_X11_trace {E : GE} {T : TM} {I : IM} {J : JM} {P : PM} {p1 : Int32} {x : Int32} (hL : LOK T P) (hF : F_X11_trace I p1 = some x) : Ctr E mX11_trace 0 0 0 [.ref 64, .int p1] T I J P (some (.int x)) T I J P := by
  unfold F_X11_trace at hF
  refine ctr_intro rfl (by decide +kernel) (Nat.le_of_ble_eq_true rfl) ?_
  refine r_sub (ls' := [(1, .int p1), (0, .ref 64)]) [1, 0] rfl ?_
  refine r_iload_n dX11_trace_0 rfl rfl ?_
  refine r_if_lt (tgt := 15) dX11_trace_1 (by decide) (fun h1 => ?_) (fun h1 => ?_)
  · have hF := tw hF h1
    refine r_bipush (v := (-3)) dX11_trace_15 (by decide) ?_
    refine r_goto (tgt := 29) dX11_trace_17 (by decide) ?_
    obtain rfl := Option.some.inj hF
    exact r_ireturn (x := (-3)) rfl rfl dX11_trace_29 (Nat.le_of_ble_eq_true rfl) (Nat.le_of_ble_eq_true rfl)
  · have hF := fw hF h1
    refine r_iload_n dX11_trace_4 rfl rfl ?_
    refine r_aload_n dX11_trace_5 rfl rfl ?_
    refine r_getP lk_X11_32 (ln_64 hL) (pp_64_5 hL) dX11_trace_6 ?_
    refine r_getI lk_X11_309 (ln_82 hL) dX11_trace_9 ?_
    refine r_icmp_lt (tgt := 20) dX11_trace_12 (by decide) (fun h2 => ?_) (fun h2 => ?_)
    · have hF := tw hF h2
      refine r_aload_n dX11_trace_20 rfl rfl ?_
      refine r_getP lk_X11_32 (ln_64 hL) (pp_64_5 hL) dX11_trace_21 ?_
      refine r_getP lk_X11_310 (ln_82 hL) (pp_82_0 hL) dX11_trace_24 ?_
      refine r_iload_n dX11_trace_27 rfl rfl ?_
      obtain ⟨g3, hF⟩ := gd hF
      refine r_iald (ln_83 hL) (by rw [(nl_83 hL)]; exact g3) dX11_trace_28 ?_
      obtain rfl := Option.some.inj hF
      exact r_ireturn (x := (I 83 p1.toNatClampNeg)) rfl rfl dX11_trace_29 (Nat.le_of_ble_eq_true rfl) (Nat.le_of_ble_eq_true rfl)
    · have hF := fw hF h2
      refine r_bipush (v := (-3)) dX11_trace_15 (by decide) ?_
      refine r_goto (tgt := 29) dX11_trace_17 (by decide) ?_
      obtain rfl := Option.some.inj hF
      exact r_ireturn (x := (-3)) rfl rfl dX11_trace_29 (Nat.le_of_ble_eq_true rfl) (Nat.le_of_ble_eq_true rfl)
def F_X11_many (N : Nat) (I : IM) (p1 : Int32) : Option (Int32) := (if p1 = 0 then (some (I 65 1)) else (if p1 = 1 then (some (I 64 11)) else (if p1 = 2 then (some (I 80 1)) else (if p1 = 3 then (some (I 82 1)) else (if p1 = 4 then ((F_X10_allWeights N I 65).bind (fun x6 => (some x6))) else (some (-1)))))))
set_option maxHeartbeats 4000000 in
theorem ok_X11_many {E : GE} {T : TM} {I : IM} {J : JM} {P : PM} {p1 : Int32} {N : Nat} {x : Int32} (hL : LOK T P) (hF : F_X11_many N I p1 = some x) : Ctr E mX11_many 1 0 0 [.ref 64, .int p1] T I J P (some (.int x)) T I J P := by
  unfold F_X11_many at hF
  refine ctr_intro rfl (by decide +kernel) (Nat.le_of_ble_eq_true rfl) ?_
  refine r_sub (ls' := [(1, .int p1), (0, .ref 64)]) [1, 0] rfl ?_
  refine r_iload_n dX11_many_0 rfl rfl ?_
  by_cases h1 : p1 = 0
  · have hF := tw hF h1
    refine r_tableIn (off := 35) (tgt := 36) dX11_many_1 (by rw [h1]; decide) (by rw [h1]; decide) (by rw [h1]; decide) (by decide) ?_
    refine r_aload_n dX11_many_36 rfl rfl ?_
    refine r_getP lk_X11_10 (ln_64 hL) (pp_64_0 hL) dX11_many_37 ?_
    refine r_getI lk_X11_94 (ln_65 hL) dX11_many_40 ?_
    obtain rfl := Option.some.inj hF
    exact r_ireturn (x := (I 65 1)) rfl rfl dX11_many_43 (Nat.le_of_ble_eq_true rfl) (Nat.le_of_ble_eq_true rfl)
  · have hF := fw hF h1
    by_cases h2 : p1 = 1
    · have hF := tw hF h2
      refine r_tableIn (off := 43) (tgt := 44) dX11_many_1 (by rw [h2]; decide) (by rw [h2]; decide) (by rw [h2]; decide) (by decide) ?_
      refine r_aload_n dX11_many_44 rfl rfl ?_
      refine r_getI lk_X11_91 (ln_64 hL) dX11_many_45 ?_
      obtain rfl := Option.some.inj hF
      exact r_ireturn (x := (I 64 11)) rfl rfl dX11_many_48 (Nat.le_of_ble_eq_true rfl) (Nat.le_of_ble_eq_true rfl)
    · have hF := fw hF h2
      by_cases h3 : p1 = 2
      · have hF := tw hF h3
        refine r_tableIn (off := 48) (tgt := 49) dX11_many_1 (by rw [h3]; decide) (by rw [h3]; decide) (by rw [h3]; decide) (by decide) ?_
        refine r_aload_n dX11_many_49 rfl rfl ?_
        refine r_getP lk_X11_25 (ln_64 hL) (pp_64_4 hL) dX11_many_50 ?_
        refine r_getI lk_X11_76 (ln_80 hL) dX11_many_53 ?_
        obtain rfl := Option.some.inj hF
        exact r_ireturn (x := (I 80 1)) rfl rfl dX11_many_56 (Nat.le_of_ble_eq_true rfl) (Nat.le_of_ble_eq_true rfl)
      · have hF := fw hF h3
        by_cases h4 : p1 = 3
        · have hF := tw hF h4
          refine r_tableIn (off := 56) (tgt := 57) dX11_many_1 (by rw [h4]; decide) (by rw [h4]; decide) (by rw [h4]; decide) (by decide) ?_
          refine r_aload_n dX11_many_57 rfl rfl ?_
          refine r_getP lk_X11_32 (ln_64 hL) (pp_64_5 hL) dX11_many_58 ?_
          refine r_getI lk_X11_309 (ln_82 hL) dX11_many_61 ?_
          obtain rfl := Option.some.inj hF
          exact r_ireturn (x := (I 82 1)) rfl rfl dX11_many_64 (Nat.le_of_ble_eq_true rfl) (Nat.le_of_ble_eq_true rfl)
        · have hF := fw hF h4
          by_cases h5 : p1 = 4
          · have hF := tw hF h5
            refine r_tableIn (off := 64) (tgt := 65) dX11_many_1 (by rw [h5]; decide) (by rw [h5]; decide) (by rw [h5]; decide) (by decide) ?_
            refine r_aload_n dX11_many_65 rfl rfl ?_
            refine r_getP lk_X11_10 (ln_64 hL) (pp_64_0 hL) dX11_many_66 ?_
            obtain ⟨x6, hx6, hF⟩ := bnd hF
            refine c_virt_i (As := []) mi_X10_allWeights kw_524 kw_525 kw_523 rfl (by decide) (ln_65 hL) (ok_X10_allWeights hL (isw_65) hx6) rfl rfl (Nat.le_of_ble_eq_true rfl) ⟨Nat.le_of_ble_eq_true rfl, Nat.le_of_ble_eq_true rfl⟩ ⟨Nat.le_of_ble_eq_true rfl, Nat.le_of_ble_eq_true rfl⟩ dX11_many_69 ?_
            obtain rfl := Option.some.inj hF
            exact r_ireturn (x := x6) rfl rfl dX11_many_72 (Nat.le_of_ble_eq_true rfl) (Nat.le_of_ble_eq_true rfl)
          · have hF := fw hF h5
            have eh1 := nei 0 (by decide) h1
            have eh2 := nei 1 (by decide) h2
            have eh3 := nei 2 (by decide) h3
            have eh4 := nei 3 (by decide) h4
            have eh5 := nei 4 (by decide) h5
            refine r_tableOut (tgt := 73) dX11_many_1 (by omega) (by decide) ?_
            refine r_iconst (v := (-1)) dX11_many_73 (by decide) ?_
            obtain rfl := Option.some.inj hF
            exact r_ireturn (x := (-1)) rfl rfl dX11_many_74 (Nat.le_of_ble_eq_true rfl) (Nat.le_of_ble_eq_true rfl)
def F_X11_keep (T : TM) (I : IM) (P : PM) : Option (Int32 × IM × PM) := ((F_X10_copyFrom T I P 70 65).bind (fun x1 => (letb (up2 x1.1 64 2 1) (fun I2 : IM => (some (1, I2, x1.2))))))
set_option maxHeartbeats 4000000 in
theorem ok_X11_keep {E : GE} {T : TM} {I : IM} {J : JM} {P : PM} {x : Int32 × IM × PM} (hL : LOK T P) (hF : F_X11_keep T I P = some x) : CtrP E (LOK T x.2.2) mX11_keep 2 0 0 [.ref 64] T I J P (some (.int x.1)) T x.2.1 J x.2.2 := by
  unfold F_X11_keep at hF
  refine ctrP_intro (by decide) (Nat.le_of_ble_eq_true rfl) ?_
  refine r_sub (ls' := [(0, .ref 64)]) [0] rfl ?_
  refine r_aload_n dX11_keep_0 rfl rfl ?_
  refine r_getP lk_X11_16 (ln_64 hL) (pp_64_1 hL) dX11_keep_1 ?_
  refine r_aload_n dX11_keep_4 rfl rfl ?_
  refine r_getP lk_X11_10 (ln_64 hL) (pp_64_0 hL) dX11_keep_5 ?_
  obtain ⟨x1, hx1, hF⟩ := bnd hF
  refine cp_virt_v (As := [.ref 65]) mi_X10_copyFrom kw_247 kw_248 kw_246 rfl (by decide) (ln_70 hL) (ok_X10_copyFrom hL (isw_70) (isw_65) hx1) rfl rfl (Nat.le_of_ble_eq_true rfl) ⟨Nat.le_of_ble_eq_true rfl, Nat.le_of_ble_eq_true rfl⟩ ⟨Nat.le_of_ble_eq_true rfl, Nat.le_of_ble_eq_true rfl⟩ dX11_keep_8 ?_
  intro hL
  refine r_aload_n dX11_keep_11 rfl rfl ?_
  refine r_iconst (v := 1) dX11_keep_12 (by decide) ?_
  refine r_putI lk_X11_313 (Or.inl rfl) (ln_64 hL) rfl rfl dX11_keep_13 ?_
  refine r_letI hF (fun I2 hF => ?_)
  refine r_iconst (v := 1) dX11_keep_16 (by decide) ?_
  obtain rfl := Option.some.inj hF
  exact p_ireturn (x := 1) rfl rfl dX11_keep_17 hL (Nat.le_of_ble_eq_true rfl) (Nat.le_of_ble_eq_true rfl)
def F_X11_again (T : TM) (I : IM) (P : PM) : Option (Int32 × IM × PM) := (if (I 64 2) = 0 then (some ((-3), I, P)) else ((F_X10_copyFrom T I P 65 70).bind (fun x2 => (some ((x2.1 65 1), x2.1, x2.2)))))
set_option maxHeartbeats 4000000 in
theorem ok_X11_again {E : GE} {T : TM} {I : IM} {J : JM} {P : PM} {x : Int32 × IM × PM} (hL : LOK T P) (hF : F_X11_again T I P = some x) : CtrP E (LOK T x.2.2) mX11_again 2 0 0 [.ref 64] T I J P (some (.int x.1)) T x.2.1 J x.2.2 := by
  unfold F_X11_again at hF
  refine ctrP_intro (by decide) (Nat.le_of_ble_eq_true rfl) ?_
  refine r_sub (ls' := [(0, .ref 64)]) [0] rfl ?_
  refine r_aload_n dX11_again_0 rfl rfl ?_
  refine r_getI lk_X11_313 (ln_64 hL) dX11_again_1 ?_
  refine r_if_ne (tgt := 10) dX11_again_4 (by decide) (fun h1 => ?_) (fun h1 => ?_)
  · have hF := fw hF h1
    refine r_aload_n dX11_again_10 rfl rfl ?_
    refine r_getP lk_X11_10 (ln_64 hL) (pp_64_0 hL) dX11_again_11 ?_
    refine r_aload_n dX11_again_14 rfl rfl ?_
    refine r_getP lk_X11_16 (ln_64 hL) (pp_64_1 hL) dX11_again_15 ?_
    obtain ⟨x2, hx2, hF⟩ := bnd hF
    refine cp_virt_v (As := [.ref 70]) mi_X10_copyFrom kw_247 kw_248 kw_246 rfl (by decide) (ln_65 hL) (ok_X10_copyFrom hL (isw_65) (isw_70) hx2) rfl rfl (Nat.le_of_ble_eq_true rfl) ⟨Nat.le_of_ble_eq_true rfl, Nat.le_of_ble_eq_true rfl⟩ ⟨Nat.le_of_ble_eq_true rfl, Nat.le_of_ble_eq_true rfl⟩ dX11_again_18 ?_
    intro hL
    refine r_aload_n dX11_again_21 rfl rfl ?_
    refine r_getP lk_X11_10 (ln_64 hL) (pp_64_0 hL) dX11_again_22 ?_
    refine r_getI lk_X11_94 (ln_65 hL) dX11_again_25 ?_
    obtain rfl := Option.some.inj hF
    exact p_ireturn (x := (x2.1 65 1)) rfl rfl dX11_again_28 hL (Nat.le_of_ble_eq_true rfl) (Nat.le_of_ble_eq_true rfl)
  · have hF := tw hF h1
    refine r_bipush (v := (-3)) dX11_again_7 (by decide) ?_
    obtain rfl := Option.some.inj hF
    exact p_ireturn (x := (-3)) rfl rfl dX11_again_9 hL (Nat.le_of_ble_eq_true rfl) (Nat.le_of_ble_eq_true rfl)
